/-! THE MODEL: a writ is not open any more -/
def clG (S : sS) (k : Nat) (g : Bool) : sS := if g = true then clS S k else (s_P S, su_close (s_U S) k, s_M S, s_N S)
section MX
variable {d : Nat} {I : qq_I} {τ : qq_R} {m B : Nat} {S : sS}
/-- the shift of the writs behind -/
theorem c_shift (hL : L_N τ m) {k n : Nat} (hn : n ≤ 8) (hk : k < n) (x1 x2 x3 : Int32) (h10 : I (m + 1) 10 = iN n) :
    ∀ q j (J : qq_I), j + q = 37 + 6 * (n - 1) → 37 + 6 * k ≤ j → (∀ i, J (m + 1) i = if 37 + 6 * k ≤ i ∧ i < j then I (m + 1) (i + 6) else I (m + 1) i) → (∀ c, c ≠ m + 1 → J c = I c) →
      ∃ J', RR (d + 1) 236 41 [some (.ref m), some (.int x1), some (.int x2), some (.int x3), some (.int (iN j))] [] (J, τ) = RR (d + 1) 236 73 [some (.ref m), some (.int x1), some (.int x2), some (.int x3), some (.int (iN (37 + 6 * (n - 1))))] [] (up_2 J' (m + 1) 10 (iN (n - 1)), τ) ∧
        (∀ i, J' (m + 1) i = if 37 + 6 * k ≤ i ∧ i < 37 + 6 * (n - 1) then I (m + 1) (i + 6) else I (m + 1) i) ∧ (∀ c, c ≠ m + 1 → J' c = I c) := by
  obtain ⟨m70, k0, r0, -, -, -, -, -, -, -, -, g1, -⟩ := hL
  intro q
  induction q with
  | zero =>
    intro j J hj hj2 hf hJ
    have hj : j = 37 + 6 * (n - 1) := hj
    have e10 : J (m + 1) 10 = iN n := by rw [hf 10, if_neg (by omega)]; exact h10
    refine ⟨J, ?_, by rw [hj] at hf; exact hf, hJ⟩
    rw [hj, b_236_41]
    have e1 : iN n - iN 1 = iN (n - 1) := iN_sub (by omega)
    simp (disch := omega) only [rd_I_mk, rd_R_mk, rd_L_mk, rd_D_mk, kd_mk, wr_I_mk, cp_mk, gd_true, bd_ret, bd_thr, vl_none, vl_some, iN_add, iN_mul, iN_sub, iN_lt, iN_eq, iN_n, iN_m1, iN_pred, vp_iN, K0_le, nr_b0, nr_b1, m1_lt, lt_m1, iN_ne_m1, m1_ne_iN, not_lt_z, true_and, and_true, and_self, or_true, true_or, or_false, false_or, if_true, if_false, ↓reduceIte, eq_self, up_at, up_a, up_k, cp_c, cp_b, Nat.zero_add, Nat.add_zero, Nat.sub_zero, Nat.le_refl, Nat.add_sub_cancel, fu_at, fu_ne, iN_nz, n10_f, n01_f, ofN, qq_at_100, k110b, Nat.lt_irrefl, Nat.not_lt_zero, ne_eq, not_false_eq_true, not_true_eq_false, k0, r0, g1, e10]
  | succ q ih =>
    intro j J hj hj2 hf hJ
    have e10 : J (m + 1) 10 = iN n := by rw [hf 10, if_neg (by omega)]; exact h10
    have ej : J (m + 1) (j + 6) = I (m + 1) (j + 6) := by rw [hf (j + 6), if_neg (by omega)]
    have e : j < 37 + 6 * (n - 1) := by omega
    obtain ⟨J', t1, t2⟩ := ih (j + 1) (up_2 J (m + 1) j (I (m + 1) (j + 6))) (by omega) (by omega) (fun i => by
      by_cases y : i = j
      · rw [y, up_at, if_pos (by omega)]
      · rw [up_k y, hf i]
        by_cases z : 37 + 6 * k ≤ i ∧ i < j
        · rw [if_pos z, if_pos (by omega)]
        · rw [if_neg z, if_neg (by omega)]) (fun c hc => by rw [up_c hc]; exact hJ c hc)
    refine ⟨J', ?_, t2⟩
    rw [b_236_41]
    simp (disch := omega) only [rd_I_mk, rd_R_mk, rd_L_mk, rd_D_mk, kd_mk, wr_I_mk, cp_mk, gd_true, bd_ret, bd_thr, vl_none, vl_some, iN_add, iN_mul, iN_sub, iN_lt, iN_eq, iN_n, iN_m1, iN_pred, vp_iN, K0_le, nr_b0, nr_b1, m1_lt, lt_m1, iN_ne_m1, m1_ne_iN, not_lt_z, true_and, and_true, and_self, or_true, true_or, or_false, false_or, if_true, if_false, ↓reduceIte, eq_self, up_at, up_a, up_k, cp_c, cp_b, Nat.zero_add, Nat.add_zero, Nat.sub_zero, Nat.le_refl, Nat.add_sub_cancel, fu_at, fu_ne, iN_nz, n10_f, n01_f, ofN, qq_at_100, k110b, Nat.lt_irrefl, Nat.not_lt_zero, ne_eq, not_false_eq_true, not_true_eq_false, k0, r0, g1, e10, e, ej, b_236_63]
    exact t1
end MX
