/-! THE MODEL: who follows whom -/
def bhU (U : sU) (q n k : Nat) : Bool := match pa U k with
  | none => false
  | some j => beU U q n j
section MB2
variable {d : Nat} {I : qq_I} {τ : qq_R} {m B : Nat} {S : sS}
theorem c_isBehind (hL : L_N τ m) (hR : R_F (I (m + 1)) S) (hw : wS B S) {q : Nat} (hq : q < un (s_U S)) (x1 : Int32) : ∀ K k n, k < K → k < un (s_U S) → k ≤ n → RR (d + 2) 237 2 [some (.ref m), some (.int x1), some (.int (iN (w_id (ug (s_U S) q)))), some (.int (iN k))] [] (I, τ) = some (.inl (some (.int (b01 (bhU (s_U S) q n k)))), (I, τ)) := by
  have hL0 := hL
  obtain ⟨m70, k0, r0, -, -, -, -, -, -, -, -, g1, -⟩ := hL
  have w3 := hw.2.2.1.1
  have wx := hw.2.2.1.2.1
  have hqid := (hw.2.2.1.2.2.2 q hq).1
  intro K
  induction K with
  | zero => intro k n h; omega
  | succ K ih =>
    intro k n hkK hk hkn
    obtain ⟨y1, y2, y3, y4, y5, y6, y7⟩ := hw.2.2.1.2.2.2 k hk
    have q5 := c_of (d := d + 1) (I := I) k0 r0 g1 (k := k) (w := 5) (by omega) (by omega)
    rw [(hR.2.2.2.2.2.2.2.2.2.2.2.2.2.1 k hk).2.2.2.2.2] at q5
    unfold bhU
    by_cases z : w_ca (ug (s_U S) k) = 0
    · have hp : pa (s_U S) k = none := by unfold pa; rw [if_pos z]
      rw [z] at q5
      rw [hp, b_237_2]
      simp (disch := omega) only [rd_I_mk, rd_R_mk, rd_L_mk, rd_D_mk, kd_mk, wr_I_mk, cp_mk, gd_true, bd_ret, bd_thr, vl_none, vl_some, iN_add, iN_mul, iN_sub, iN_lt, iN_eq, iN_n, iN_m1, iN_pred, vp_iN, K0_le, nr_b0, nr_b1, m1_lt, lt_m1, iN_ne_m1, m1_ne_iN, not_lt_z, true_and, and_true, and_self, or_true, true_or, or_false, false_or, if_true, if_false, ↓reduceIte, eq_self, up_at, up_a, up_k, cp_c, cp_b, Nat.zero_add, Nat.add_zero, Nat.sub_zero, Nat.le_refl, Nat.add_sub_cancel, fu_at, fu_ne, iN_nz, n10_f, n01_f, ofN, qq_at_100, k110b, Nat.lt_irrefl, Nat.not_lt_zero, ne_eq, not_false_eq_true, not_true_eq_false, k0, q5, b_237_6, Nat.lt_irrefl]
      rfl
    · obtain ⟨j, hj, hca⟩ := y7.resolve_left z
      have hju : j < un (s_U S) := by omega
      have hjid := (hw.2.2.1.2.2.2 j hju).1
      have hpx := fiX_ca hw.2.2.1 hk
      rw [hca, caC_s] at hpx
      have hat := c_at (d := d) hL0 hR hw (iN (w_id (ug (s_U S) j)))
      have hfi : fi (s_U S) (w_id (ug (s_U S) j)) = some j := by
        refine ff_is hju (beq_iff_eq.mpr rfl) (fun i hi h => ?_)
        have := id_inj hw.2.2.1 (show i < un (s_U S) by omega) hju (beq_iff_eq.mp h)
        omega
      have hfx : fiX (s_U S) (iN (w_id (ug (s_U S) j))) = some j := by rw [fiX_iN hw.2.2.1 (by omega)]; exact hfi
      rw [hfx] at hat
      have hat : CC (d + 1) 220 [.ref m, .int (iN (w_id (ug (s_U S) j)))] (I, τ) = some (.inl (some (.int (iN j))), (I, τ)) := hat
      rw [hfx] at hpx
      rw [← hpx]
      rw [hca] at q5
      obtain ⟨n', rfl⟩ : ∃ n', n = n' + 1 := ⟨n - 1, by omega⟩
      have e1 : (iN (w_id (ug (s_U S) j) + 1) = iN (w_id (ug (s_U S) q) + 1)) = (w_id (ug (s_U S) j) + 1 = w_id (ug (s_U S) q) + 1) := iN_eq (by omega) (by omega)
      have e0 : (iN 0 < iN (w_id (ug (s_U S) j) + 1)) = True := (iN_lt (by omega) (by omega)).trans (eq_true (Nat.succ_pos _))
      show _ = some (Sum.inl (some (Value.int (b01 (beU (s_U S) q (n' + 1) j)))), (I, τ))
      rw [beU, b_237_2]
      by_cases y : j = q
      · subst y
        rw [beq_self_eq_true, Bool.true_or, b01_t]
        simp only [kd_mk, k0, gd_true, q5, bd_ret, vl_some, vl_none, b_237_6, e0, if_true, b_237_11, iN_add, nr_b1]
      · have y2 : (w_id (ug (s_U S) j) + 1 = w_id (ug (s_U S) q) + 1) = False := eq_false (fun h => y (id_inj hw.2.2.1 hju hq (by omega)))
        rw [beq_eq_false_iff_ne.mpr y, Bool.false_or]
        have hsub : iN (w_id (ug (s_U S) j) + 1) - iN 1 = iN (w_id (ug (s_U S) j)) := iN_sub (by omega)
        simp only [kd_mk, k0, gd_true, q5, bd_ret, vl_some, vl_none, b_237_6, e0, if_true, b_237_11, iN_add, e1, y2, if_false, b_237_22, hsub, hat, b_237_25]
        exact ih j n' (by omega) hju (by omega)
theorem c_behind (hL : L_N τ m) (hR : R_F (I (m + 1)) S) (hw : wS B S) {q : Nat} (hq : q < un (s_U S)) : CC (d + 3) 238 [.ref m, .int (iN (w_id (ug (s_U S) q)))] (I, τ) = some (.inl (some (.int (iN (cn (fun k => bhU (s_U S) q 8 k) (un (s_U S)))))), (I, τ)) := by
  have hL0 := hL
  obtain ⟨m70, k0, r0, -, -, -, -, -, -, -, -, g1, -⟩ := hL
  have w3 := hw.2.2.1.1
  have h10 := hR.2.2.2.2.2.2.2.2.2.2.1
  have lp : ∀ n k, k + n = un (s_U S) → RR (d + 3) 238 4 [some (.ref m), some (.int (iN (w_id (ug (s_U S) q)))), some (.int (iN (cn (fun k => bhU (s_U S) q 8 k) k))), some (.int (iN k))] [] (I, τ) = some (.inl (some (.int (iN (cn (fun k => bhU (s_U S) q 8 k) (un (s_U S)))))), (I, τ)) := by
    intro n
    induction n with
    | zero =>
      intro k hk
      have hk : k = un (s_U S) := hk
      rw [← hk] at h10 ⊢
      rw [b_238_4]
      simp (disch := omega) only [rd_I_mk, rd_R_mk, rd_L_mk, rd_D_mk, kd_mk, wr_I_mk, cp_mk, gd_true, bd_ret, bd_thr, vl_none, vl_some, iN_add, iN_mul, iN_sub, iN_lt, iN_eq, iN_n, iN_m1, iN_pred, vp_iN, K0_le, nr_b0, nr_b1, m1_lt, lt_m1, iN_ne_m1, m1_ne_iN, not_lt_z, true_and, and_true, and_self, or_true, true_or, or_false, false_or, if_true, if_false, ↓reduceIte, eq_self, up_at, up_a, up_k, cp_c, cp_b, Nat.zero_add, Nat.add_zero, Nat.sub_zero, Nat.le_refl, Nat.add_sub_cancel, fu_at, fu_ne, iN_nz, n10_f, n01_f, ofN, qq_at_100, k110b, Nat.lt_irrefl, Nat.not_lt_zero, ne_eq, not_false_eq_true, not_true_eq_false, k0, r0, g1, h10]
    | succ n ih =>
      intro k hk
      have e : k < un (s_U S) := by omega
      have hcn : cn (fun k => bhU (s_U S) q 8 k) (k + 1) = cn (fun k => bhU (s_U S) q 8 k) k + (if bhU (s_U S) q 8 k = true then 1 else 0) := rfl
      have q1 : CC (d + 2) 237 [.ref m, .int (iN k), .int (iN (w_id (ug (s_U S) q)))] (I, τ) = some (.inl (some (.int (b01 (bhU (s_U S) q 8 k)))), (I, τ)) := by
        rw [c_237, b_237_0]
        exact c_isBehind hL0 hR hw hq (iN k) (k + 1) k 8 (Nat.lt_succ_self _) e (by omega)
      have hih := ih (k + 1) (by omega)
      rw [hcn] at hih
      rw [b_238_4]
      cases hb : bhU (s_U S) q 8 k with
      | false =>
        rw [hb, b01_f] at q1
        rw [hb, if_neg (show ¬ (false = true) by decide), Nat.add_zero] at hih
        simp (disch := omega) only [rd_I_mk, rd_R_mk, rd_L_mk, rd_D_mk, kd_mk, wr_I_mk, cp_mk, gd_true, bd_ret, bd_thr, vl_none, vl_some, iN_add, iN_mul, iN_sub, iN_lt, iN_eq, iN_n, iN_m1, iN_pred, vp_iN, K0_le, nr_b0, nr_b1, m1_lt, lt_m1, iN_ne_m1, m1_ne_iN, not_lt_z, true_and, and_true, and_self, or_true, true_or, or_false, false_or, if_true, if_false, ↓reduceIte, eq_self, up_at, up_a, up_k, cp_c, cp_b, Nat.zero_add, Nat.add_zero, Nat.sub_zero, Nat.le_refl, Nat.add_sub_cancel, fu_at, fu_ne, iN_nz, n10_f, n01_f, ofN, qq_at_100, k110b, Nat.lt_irrefl, Nat.not_lt_zero, ne_eq, not_false_eq_true, not_true_eq_false, k0, r0, g1, h10, e, q1, b_238_15, b_238_19]
        exact hih
      | true =>
        rw [hb, b01_t] at q1
        rw [hb, if_pos rfl] at hih
        simp (disch := omega) only [rd_I_mk, rd_R_mk, rd_L_mk, rd_D_mk, kd_mk, wr_I_mk, cp_mk, gd_true, bd_ret, bd_thr, vl_none, vl_some, iN_add, iN_mul, iN_sub, iN_lt, iN_eq, iN_n, iN_m1, iN_pred, vp_iN, K0_le, nr_b0, nr_b1, m1_lt, lt_m1, iN_ne_m1, m1_ne_iN, not_lt_z, true_and, and_true, and_self, or_true, true_or, or_false, false_or, if_true, if_false, ↓reduceIte, eq_self, up_at, up_a, up_k, cp_c, cp_b, Nat.zero_add, Nat.add_zero, Nat.sub_zero, Nat.le_refl, Nat.add_sub_cancel, fu_at, fu_ne, iN_nz, n10_f, n01_f, ofN, qq_at_100, k110b, Nat.lt_irrefl, Nat.not_lt_zero, ne_eq, not_false_eq_true, not_true_eq_false, k0, r0, g1, h10, e, q1, b_238_15, b_238_19]
        exact hih
  rw [c_238, b_238_0]
  exact lp (un (s_U S)) 0 (Nat.zero_add _)
end MB2
