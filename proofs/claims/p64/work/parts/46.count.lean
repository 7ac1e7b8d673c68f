/-! COUNTING BITS, MEANS -/
def pcn (n : Nat) : Nat := cn (fun i => n / 2 ^ i % 2 == 1) 8
theorem c_bitCount {d : Nat} {I : qq_I} {τ : qq_R} {n : Nat} (hn : n < 256) : CC d 34 [.int (iN n)] (I, τ) = some (.inl (some (.int (iN (pcn n)))), (I, τ)) := by
  rw [c_34, b_34_0]
  congr 5
  revert hn
  revert n
  decide +kernel
theorem cn_cong {f g : Nat → Bool} : ∀ n, (∀ k, k < n → f k = g k) → cn f n = cn g n := by
  intro n
  induction n with
  | zero => intro _; rfl
  | succ n ih =>
    intro h
    show su _ n + (if f n = true then 1 else 0) = su _ n + (if g n = true then 1 else 0)
    have h1 := ih (fun k hk => h k (by omega))
    unfold cn at h1
    rw [h1, h n (Nat.lt_succ_self _)]
theorem cn_more {f : Nat → Bool} {n : Nat} : ∀ m, (∀ k, n ≤ k → f k = false) → cn f (n + m) = cn f n := by
  intro m
  induction m with
  | zero => intro _; rfl
  | succ m ih =>
    intro h
    have e : cn f (n + m + 1) = cn f (n + m) + (if f (n + m) = true then 1 else 0) := rfl
    rw [show n + (m + 1) = n + m + 1 by omega, e, h (n + m) (by omega), ih h]
    rfl
theorem pcn_mk {g : Nat → Bool} {n : Nat} (hn : n ≤ 8) : pcn (mk g n) = cn g n := by
  unfold pcn
  have h1 := mk_lt g n
  have e : 8 = n + (8 - n) := by omega
  rw [e, cn_more]
  · refine cn_cong _ (fun k hk => ?_)
    rw [mk_bit g n k hk]
    cases g k <;> rfl
  · intro k hk
    have h2 : 2 ^ n ≤ 2 ^ k := Nat.pow_le_pow_right (by omega) hk
    rw [Nat.div_eq_of_lt (by omega)]
    rfl
section CT
variable {d : Nat} {I : qq_I} {τ : qq_R} {c Z B : Nat} {C : sC}
theorem p_followers (h : R_C I τ c Z B C) (x : Int32) : ∃ I' τ', CC (d + 40) 163 [.ref c, .int x] (I, τ) = some (oO (q_wr (fun k => iN (cn (beU (s_U (g_S C)) k 8) (un (s_U (g_S C)))) - iN 1) (g_S C) x), (I', τ')) ∧ PC I τ c Z B I' τ' C := by
  have h0 := h
  obtain ⟨g1, g2, g3, g4, g5, gx⟩ := h
  have k12 := g1.2.1
  have e0 := g1.2.2.1
  have hl := g1.2.2.2.2.2.2.2.2.2.2.2.1
  have k8 := hl.2.1
  have lw := hl.2.2.2.2.2.2.1
  have f1 := hl.2.2.2.1
  have kW := lw.2.1
  have w1 := g3.2.2.1.1
  unfold q_wr
  have q := c_pos (d := d + 38) h0 x
  cases hx : fiX (s_U (g_S C)) x with
  | none =>
    rw [hx] at q
    have q : CC (d + 39) 199 [.ref c, .int x] (I, τ) = some (.inr 3, (nwI τ I, nT τ (201, 0) 6)) := q
    refine ⟨_, _, ?_, PC_nw h0⟩
    rw [c_163, b_163_0]
    simp (disch := omega) only [rd_I_mk, rd_R_mk, rd_L_mk, rd_D_mk, kd_mk, wr_I_mk, cp_mk, gd_true, bd_ret, bd_thr, vl_none, vl_some, iN_add, iN_mul, iN_sub, iN_lt, iN_eq, iN_n, iN_m1, iN_pred, vp_iN, K0_le, nr_b0, nr_b1, m1_lt, lt_m1, iN_ne_m1, m1_ne_iN, not_lt_z, true_and, and_true, and_self, or_true, true_or, or_false, false_or, if_true, if_false, ↓reduceIte, eq_self, up_at, up_a, up_k, cp_c, cp_b, Nat.zero_add, Nat.add_zero, Nat.sub_zero, Nat.le_refl, Nat.add_sub_cancel, fu_at, fu_ne, iN_nz, n10_f, n01_f, ofN, qq_at_100, k110b, Nat.lt_irrefl, Nat.not_lt_zero, ne_eq, not_false_eq_true, not_true_eq_false, k12, e0, k8, f1, kW, q, oO]
  | some k =>
    have hk := fiX_lt hx
    rw [hx] at q
    have q : CC (d + 39) 199 [.ref c, .int x] (I, τ) = some (.inl (some (.int (iN k))), (I, τ)) := q
    have q6 := c_withFollowers (d := d + 38) (τ := τ) lw g2.2.1 g3.2.2.1 hk
    have hml : mk (beU (s_U (g_S C)) k 8) (un (s_U (g_S C))) < 256 := by
      have h1 := mk_lt (beU (s_U (g_S C)) k 8) (un (s_U (g_S C)))
      have h2 : 2 ^ un (s_U (g_S C)) ≤ 2 ^ 8 := Nat.pow_le_pow_right (by omega) w1
      omega
    have q7 := c_bitCount (d := d + 39) (I := I) (τ := τ) hml
    rw [pcn_mk w1] at q7
    refine ⟨I, τ, ?_, PC_rf h0⟩
    rw [c_163, b_163_0]
    simp (disch := omega) only [rd_I_mk, rd_R_mk, rd_L_mk, rd_D_mk, kd_mk, wr_I_mk, cp_mk, gd_true, bd_ret, bd_thr, vl_none, vl_some, iN_add, iN_mul, iN_lt, iN_eq, iN_n, iN_m1, iN_pred, vp_iN, K0_le, nr_b0, nr_b1, m1_lt, lt_m1, iN_ne_m1, m1_ne_iN, not_lt_z, true_and, and_true, and_self, or_true, true_or, or_false, false_or, if_true, if_false, ↓reduceIte, eq_self, up_at, up_a, up_k, cp_c, cp_b, Nat.zero_add, Nat.add_zero, Nat.sub_zero, Nat.le_refl, Nat.add_sub_cancel, fu_at, fu_ne, iN_nz, n10_f, n01_f, ofN, qq_at_100, k110b, Nat.lt_irrefl, Nat.not_lt_zero, ne_eq, not_false_eq_true, not_true_eq_false, k12, e0, k8, f1, kW, q, b_163_6, q6, b_163_7, q7, b_163_8, oO]
theorem cn_le {f : Nat → Bool} {n : Nat} : cn f n ≤ n := by
  have := su_le (f := fun k => if f k = true then 1 else 0) (B := 1) n (fun k _ => by split <;> omega)
  unfold cn
  omega
end CT
