/-! THE MODEL: a writ is not open any more -/
def clG (S : sS) (k : Nat) (g : Bool) : sS := if g = true then clS S k else (s_P S, su_close (s_U S) k, s_M S, s_N S)
section MX
variable {d : Nat} {I : qq_I} {τ : qq_R} {m B : Nat} {S : sS}
/-- the shift of the writs behind -/
theorem c_shift (hL : L_N τ m) {k n : Nat} (hn : n ≤ 8) (hk : k < n) (x1 x2 x3 : Int32) (h10 : I (m + 1) 10 = iN n) :
    ∀ q j (J : qq_I), j + q = 37 + 6 * (n - 1) → 37 + 6 * k ≤ j → (∀ i, J (m + 1) i = if 37 + 6 * k ≤ i ∧ i < j then I (m + 1) (i + 6) else I (m + 1) i) → (∀ c, c ≠ m + 1 → J c = I c) →
      ∃ J', RR (d + 1) 236 41 [some (.ref m), some (.int x1), some (.int x2), some (.int x3), some (.int (iN j))] [] (J, τ) = RR (d + 1) 236 73 [some (.ref m), some (.int x1), some (.int x2), some (.int x3), some (.int (iN (37 + 6 * (n - 1))))] [] (up_2 J' (m + 1) 10 (iN (n - 1)), τ) ∧
        (∀ i, J' (m + 1) i = if 37 + 6 * k ≤ i ∧ i < 37 + 6 * (n - 1) then I (m + 1) (i + 6) else I (m + 1) i) ∧ (∀ c, c ≠ m + 1 → J' c = I c) := by
  obtain ⟨m70, k0, r0, -, -, -, -, -, -, -, -, g1, -⟩ := hL
  intro q
  induction q with
  | zero =>
    intro j J hj hj2 hf hJ
    have hj : j = 37 + 6 * (n - 1) := hj
    have e10 : J (m + 1) 10 = iN n := by rw [hf 10, if_neg (by omega)]; exact h10
    refine ⟨J, ?_, by rw [hj] at hf; exact hf, hJ⟩
    rw [hj, b_236_41]
    have e1 : iN n - iN 1 = iN (n - 1) := iN_sub (by omega)
    simp (disch := omega) only [rd_I_mk, rd_R_mk, rd_L_mk, rd_D_mk, kd_mk, wr_I_mk, cp_mk, gd_true, bd_ret, bd_thr, vl_none, vl_some, iN_add, iN_mul, iN_sub, iN_lt, iN_eq, iN_n, iN_m1, iN_pred, vp_iN, K0_le, nr_b0, nr_b1, m1_lt, lt_m1, iN_ne_m1, m1_ne_iN, not_lt_z, true_and, and_true, and_self, or_true, true_or, or_false, false_or, if_true, if_false, ↓reduceIte, eq_self, up_at, up_a, up_k, cp_c, cp_b, Nat.zero_add, Nat.add_zero, Nat.sub_zero, Nat.le_refl, Nat.add_sub_cancel, fu_at, fu_ne, iN_nz, n10_f, n01_f, ofN, qq_at_100, k110b, Nat.lt_irrefl, Nat.not_lt_zero, ne_eq, not_false_eq_true, not_true_eq_false, k0, r0, g1, e10]
  | succ q ih =>
    intro j J hj hj2 hf hJ
    have e10 : J (m + 1) 10 = iN n := by rw [hf 10, if_neg (by omega)]; exact h10
    have ej : J (m + 1) (j + 6) = I (m + 1) (j + 6) := by rw [hf (j + 6), if_neg (by omega)]
    have e : j < 37 + 6 * (n - 1) := by omega
    obtain ⟨J', t1, t2⟩ := ih (j + 1) (up_2 J (m + 1) j (I (m + 1) (j + 6))) (by omega) (by omega) (fun i => by
      by_cases y : i = j
      · rw [y, up_at, if_pos (by omega)]
      · rw [up_k y, hf i]
        by_cases z : 37 + 6 * k ≤ i ∧ i < j
        · rw [if_pos z, if_pos (by omega)]
        · rw [if_neg z, if_neg (by omega)]) (fun c hc => by rw [up_c hc]; exact hJ c hc)
    refine ⟨J', ?_, t2⟩
    rw [b_236_41]
    simp (disch := omega) only [rd_I_mk, rd_R_mk, rd_L_mk, rd_D_mk, kd_mk, wr_I_mk, cp_mk, gd_true, bd_ret, bd_thr, vl_none, vl_some, iN_add, iN_mul, iN_sub, iN_lt, iN_eq, iN_n, iN_m1, iN_pred, vp_iN, K0_le, nr_b0, nr_b1, m1_lt, lt_m1, iN_ne_m1, m1_ne_iN, not_lt_z, true_and, and_true, and_self, or_true, true_or, or_false, false_or, if_true, if_false, ↓reduceIte, eq_self, up_at, up_a, up_k, cp_c, cp_b, Nat.zero_add, Nat.add_zero, Nat.sub_zero, Nat.le_refl, Nat.add_sub_cancel, fu_at, fu_ne, iN_nz, n10_f, n01_f, ofN, qq_at_100, k110b, Nat.lt_irrefl, Nat.not_lt_zero, ne_eq, not_false_eq_true, not_true_eq_false, k0, r0, g1, e10, e, ej, b_236_63]
    exact t1
theorem c_zeros (hL : L_N τ m) {n : Nat} (hn : n < 8) (x1 x2 x3 : Int32) (h10 : I (m + 1) 10 = iN n) :
    ∀ q w (J : qq_I), w + q = 6 → (∀ i, J (m + 1) i = if 37 + 6 * n ≤ i ∧ i < 37 + 6 * n + w then iN 0 else I (m + 1) i) → (∀ c, c ≠ m + 1 → J c = I c) →
      ∃ J', RR (d + 1) 236 75 [some (.ref m), some (.int x1), some (.int x2), some (.int x3), some (.int (iN w))] [] (J, τ) = RR (d + 1) 236 90 [some (.ref m), some (.int x1), some (.int x2), some (.int x3), some (.int (iN 0))] [] (J', τ) ∧
        (∀ i, J' (m + 1) i = if 37 + 6 * n ≤ i ∧ i < 37 + 6 * n + 6 then iN 0 else I (m + 1) i) ∧ (∀ c, c ≠ m + 1 → J' c = I c) := by
  obtain ⟨m70, k0, r0, -, -, -, -, -, -, -, -, g1, -⟩ := hL
  intro q
  induction q with
  | zero =>
    intro w J hw hf hJ
    have hw : w = 6 := hw
    subst hw
    refine ⟨J, ?_, hf, hJ⟩
    rw [b_236_75]
    simp (disch := omega) only [rd_I_mk, rd_R_mk, rd_L_mk, rd_D_mk, kd_mk, wr_I_mk, cp_mk, gd_true, bd_ret, bd_thr, vl_none, vl_some, iN_add, iN_mul, iN_sub, iN_lt, iN_eq, iN_n, iN_m1, iN_pred, vp_iN, K0_le, nr_b0, nr_b1, m1_lt, lt_m1, iN_ne_m1, m1_ne_iN, not_lt_z, true_and, and_true, and_self, or_true, true_or, or_false, false_or, if_true, if_false, ↓reduceIte, eq_self, up_at, up_a, up_k, cp_c, cp_b, Nat.zero_add, Nat.add_zero, Nat.sub_zero, Nat.le_refl, Nat.add_sub_cancel, fu_at, fu_ne, iN_nz, n10_f, n01_f, ofN, qq_at_100, k110b, Nat.lt_irrefl, Nat.not_lt_zero, ne_eq, not_false_eq_true, not_true_eq_false]
  | succ q ih =>
    intro w J hw hf hJ
    have e10 : J (m + 1) 10 = iN n := by rw [hf 10, if_neg (by omega)]; exact h10
    have e : w < 6 := by omega
    have t := c_sets (d := d) (I := J) k0 m70 r0 g1 (k := n) (w := w) hn e (v := iN 0)
    obtain ⟨J', t1, t2⟩ := ih (w + 1) (up_2 J (m + 1) (37 + 6 * n + w) (iN 0)) (by omega) (fun i => by
      by_cases y : i = 37 + 6 * n + w
      · rw [y, up_at, if_pos (by omega)]
      · rw [up_k y, hf i]
        by_cases z : 37 + 6 * n ≤ i ∧ i < 37 + 6 * n + w
        · rw [if_pos z, if_pos (by omega)]
        · rw [if_neg z, if_neg (by omega)]) (fun c hc => by rw [up_c hc]; exact hJ c hc)
    refine ⟨J', ?_, t2⟩
    rw [b_236_75]
    simp (disch := omega) only [rd_I_mk, rd_R_mk, rd_L_mk, rd_D_mk, kd_mk, wr_I_mk, cp_mk, gd_true, bd_ret, bd_thr, vl_none, vl_some, iN_add, iN_mul, iN_sub, iN_lt, iN_eq, iN_n, iN_m1, iN_pred, vp_iN, K0_le, nr_b0, nr_b1, m1_lt, lt_m1, iN_ne_m1, m1_ne_iN, not_lt_z, true_and, and_true, and_self, or_true, true_or, or_false, false_or, if_true, if_false, ↓reduceIte, eq_self, up_at, up_a, up_k, cp_c, cp_b, Nat.zero_add, Nat.add_zero, Nat.sub_zero, Nat.le_refl, Nat.add_sub_cancel, fu_at, fu_ne, iN_nz, n10_f, n01_f, ofN, qq_at_100, k110b, Nat.lt_irrefl, Nat.not_lt_zero, ne_eq, not_false_eq_true, not_true_eq_false, e, k0, r0, g1, e10, t, b_236_86]
    exact t1
/-- where the cause of one of the first i writs stands -/
def hcz (i j : Nat) : Bool := decide (37 ≤ j ∧ (j - 37) % 6 = 5 ∧ (j - 37) / 6 < i)
theorem c_causes (hL : L_N τ m) {n id : Nat} (hn : n < 8) (x1 x2 : Int32) (h10 : I (m + 1) 10 = iN n) :
    ∀ q i (J : qq_I) (x4 : Int32), i + q = n → x4 = iN i → (∀ j, J (m + 1) j = if hcz i j = true then (if I (m + 1) j = iN (id + 1) then iN 0 else I (m + 1) j) else I (m + 1) j) → (∀ c, c ≠ m + 1 → J c = I c) →
      ∃ J', RR (d + 1) 236 90 [some (.ref m), some (.int x1), some (.int x2), some (.int (iN id)), some (.int x4)] [] (J, τ) = some (.inl none, (J', τ)) ∧
        (∀ j, J' (m + 1) j = if hcz n j = true then (if I (m + 1) j = iN (id + 1) then iN 0 else I (m + 1) j) else I (m + 1) j) ∧ (∀ c, c ≠ m + 1 → J' c = I c) := by
  obtain ⟨m70, k0, r0, -, -, -, -, -, -, -, -, g1, -⟩ := hL
  have no10 : ∀ i, hcz i 10 = false := fun i => decide_eq_false (by omega)
  intro q
  induction q with
  | zero =>
    intro i J x4 hi hx hf hJ
    subst hx
    have hi : i = n := hi
    subst hi
    have e10 : J (m + 1) 10 = iN i := by rw [hf 10, no10, if_neg (by decide)]; exact h10
    refine ⟨J, ?_, hf, hJ⟩
    rw [b_236_90]
    simp (disch := omega) only [rd_I_mk, rd_R_mk, rd_L_mk, rd_D_mk, kd_mk, wr_I_mk, cp_mk, gd_true, bd_ret, bd_thr, vl_none, vl_some, iN_add, iN_mul, iN_sub, iN_lt, iN_eq, iN_n, iN_m1, iN_pred, vp_iN, K0_le, nr_b0, nr_b1, m1_lt, lt_m1, iN_ne_m1, m1_ne_iN, not_lt_z, true_and, and_true, and_self, or_true, true_or, or_false, false_or, if_true, if_false, ↓reduceIte, eq_self, up_at, up_a, up_k, cp_c, cp_b, Nat.zero_add, Nat.add_zero, Nat.sub_zero, Nat.le_refl, Nat.add_sub_cancel, fu_at, fu_ne, iN_nz, n10_f, n01_f, ofN, qq_at_100, k110b, Nat.lt_irrefl, Nat.not_lt_zero, ne_eq, not_false_eq_true, not_true_eq_false, k0, r0, g1, e10]
  | succ q ih =>
    intro i J x4 hi hx hf hJ
    subst hx
    have e10 : J (m + 1) 10 = iN n := by rw [hf 10, no10, if_neg (by decide)]; exact h10
    have e : i < n := by omega
    have hn0 : hcz i (37 + 6 * i + 5) = false := decide_eq_false (by omega)
    have ec : J (m + 1) (37 + 6 * i + 5) = I (m + 1) (37 + 6 * i + 5) := by rw [hf, hn0, if_neg (by decide)]
    have q1 := c_of (d := d) (I := J) k0 r0 g1 (k := i) (w := 5) (by omega) (by omega)
    rw [ec] at q1
    have t := c_sets (d := d) (I := J) k0 m70 r0 g1 (k := i) (w := 5) (by omega) (by omega) (v := if I (m + 1) (37 + 6 * i + 5) = iN (id + 1) then iN 0 else I (m + 1) (37 + 6 * i + 5))
    obtain ⟨J', t1, t2⟩ := ih (i + 1) (up_2 J (m + 1) (37 + 6 * i + 5) (if I (m + 1) (37 + 6 * i + 5) = iN (id + 1) then iN 0 else I (m + 1) (37 + 6 * i + 5))) (iN (i + 1)) (by omega) rfl (fun j => by
      by_cases y : j = 37 + 6 * i + 5
      · have hy : hcz (i + 1) (37 + 6 * i + 5) = true := decide_eq_true (by omega)
        rw [y, up_at, hy, if_pos rfl]
      · rw [up_k y, hf j]
        have hy : hcz (i + 1) j = hcz i j := by
          unfold hcz
          rw [Bool.eq_iff_iff, decide_eq_true_eq, decide_eq_true_eq]
          omega
        rw [hy]) (fun c hc => by rw [up_c hc]; exact hJ c hc)
    refine ⟨J', ?_, t2⟩
    rw [b_236_90]
    by_cases z : I (m + 1) (37 + 6 * i + 5) = iN (id + 1)
    · rw [if_pos z] at t t1
      rw [z] at q1
      simp (disch := omega) only [rd_I_mk, rd_R_mk, rd_L_mk, rd_D_mk, kd_mk, wr_I_mk, cp_mk, gd_true, bd_ret, bd_thr, vl_none, vl_some, iN_add, iN_mul, iN_sub, iN_lt, iN_eq, iN_n, iN_m1, iN_pred, vp_iN, K0_le, nr_b0, nr_b1, m1_lt, lt_m1, iN_ne_m1, m1_ne_iN, not_lt_z, true_and, and_true, and_self, or_true, true_or, or_false, false_or, if_true, if_false, ↓reduceIte, eq_self, up_at, up_a, up_k, cp_c, cp_b, Nat.zero_add, Nat.add_zero, Nat.sub_zero, Nat.le_refl, Nat.add_sub_cancel, fu_at, fu_ne, iN_nz, n10_f, n01_f, ofN, qq_at_100, k110b, Nat.lt_irrefl, Nat.not_lt_zero, ne_eq, not_false_eq_true, not_true_eq_false, k0, r0, g1, e10, e, q1, b_236_103, b_236_113, t, b_236_114]
      exact t1
    · rw [if_neg z] at t t1
      simp (disch := omega) only [kd_mk, rd_R_mk, rd_I_mk, k0, r0, g1, gd_true, true_and, and_true, and_self, vp_iN, iN_n, e10, iN_lt, e, if_true, q1, bd_ret, vl_some, b_236_103, iN_add, z, if_false, b_236_113, t, vl_none, b_236_114]
      exact t1
theorem c_closes (hL : L_N τ m) (hR : R_F (I (m + 1)) S) (hw : wS B S) {k : Nat} (hk : k < un (s_U S)) (g : Bool) : ∃ I', CC (d + 1) 236 [.ref m, .int (iN k), .int (b01 g)] (I, τ) = some (.inl none, (I', τ)) ∧ R_F (I' (m + 1)) (clG S k g) ∧ (∀ c, c ≠ m + 1 → I' c = I c) := by
  sorry
end MX
