/-! THE PLAZA'S METHODS -/
section PZ
variable {d : Nat} {I : qq_I} {τ : qq_R} {p : Nat} {P : sP}
theorem c_hasPedestal (hL : L_P τ p) (hR : R_P I p P) (hw : wP P) (x : Int32) : CC d 60 [.ref p, .int x] (I, τ) = some (.inl (some (.int (@ite _ (∃ k, k < p_np P ∧ x = iN k) (Classical.propDecidable _) (iN 1) (iN 0)))), (I, τ)) := by
  obtain ⟨hp, k0, -⟩ := hL
  obtain ⟨r0, -⟩ := hR
  have hn := hw.1
  rw [c_60, b_60_0]
  have key := @iN_in x (p_np P) (by omega)
  by_cases h1 : x < iN 0
  · rw [if_pos h1, if_neg (fun z => (key.mpr z).1 h1)]
    simp (disch := omega) only [rd_I_mk, rd_R_mk, rd_L_mk, rd_D_mk, kd_mk, wr_I_mk, cp_mk, gd_true, bd_ret, bd_thr, vl_none, vl_some, iN_add, iN_mul, iN_sub, iN_lt, iN_eq, iN_n, iN_m1, iN_pred, vp_iN, K0_le, nr_b0, nr_b1, m1_lt, lt_m1, iN_ne_m1, m1_ne_iN, not_lt_z, true_and, and_true, and_self, or_true, true_or, or_false, false_or, if_true, if_false, ↓reduceIte, eq_self, ne_eq, not_false_eq_true, not_true_eq_false, b_60_8, b_60_9]
  · rw [if_neg h1]
    simp (disch := omega) only [rd_I_mk, rd_R_mk, rd_L_mk, rd_D_mk, kd_mk, wr_I_mk, cp_mk, gd_true, bd_ret, bd_thr, vl_none, vl_some, iN_add, iN_mul, iN_sub, iN_lt, iN_eq, iN_n, iN_m1, iN_pred, vp_iN, K0_le, nr_b0, nr_b1, m1_lt, lt_m1, iN_ne_m1, m1_ne_iN, not_lt_z, true_and, and_true, and_self, or_true, true_or, or_false, false_or, if_true, if_false, ↓reduceIte, eq_self, ne_eq, not_false_eq_true, not_true_eq_false, k0, r0]
    by_cases h2 : x < iN (p_np P)
    · rw [if_pos h2, if_pos (key.mp ⟨h1, h2⟩)]
      simp (disch := omega) only [rd_I_mk, rd_R_mk, rd_L_mk, rd_D_mk, kd_mk, wr_I_mk, cp_mk, gd_true, bd_ret, bd_thr, vl_none, vl_some, iN_add, iN_mul, iN_sub, iN_lt, iN_eq, iN_n, iN_m1, iN_pred, vp_iN, K0_le, nr_b0, nr_b1, m1_lt, lt_m1, iN_ne_m1, m1_ne_iN, not_lt_z, true_and, and_true, and_self, or_true, true_or, or_false, false_or, if_true, if_false, ↓reduceIte, eq_self, ne_eq, not_false_eq_true, not_true_eq_false, b_60_8, b_60_9]
    · rw [if_neg h2, if_neg (fun z => h2 (key.mpr z).2)]
      simp (disch := omega) only [rd_I_mk, rd_R_mk, rd_L_mk, rd_D_mk, kd_mk, wr_I_mk, cp_mk, gd_true, bd_ret, bd_thr, vl_none, vl_some, iN_add, iN_mul, iN_sub, iN_lt, iN_eq, iN_n, iN_m1, iN_pred, vp_iN, K0_le, nr_b0, nr_b1, m1_lt, lt_m1, iN_ne_m1, m1_ne_iN, not_lt_z, true_and, and_true, and_self, or_true, true_or, or_false, false_or, if_true, if_false, ↓reduceIte, eq_self, ne_eq, not_false_eq_true, not_true_eq_false, b_60_8, b_60_9]
theorem c_standingOn (hL : L_P τ p) (hR : R_P I p P) (hw : wP P) {x : Nat} (hx : x < 100) : CC d 66 [.ref p, .int (iN x)] (I, τ) = some (.inl (some (.int (oN (onP P x)))), (I, τ)) := by
  obtain ⟨hp, k0, k1, k3, k4, k5, k6, q1, q2, q3, q4, q5⟩ := hL
  obtain ⟨r0, r2, r3, r4, r5, r6, r7⟩ := hR
  obtain ⟨w1, w2, w3, w4, -⟩ := hw
  have lp : ∀ n k, k + n = p_ns P → RR d 66 2 [some (.ref p), some (.int (iN x)), some (.int (iN k))] [] (I, τ) = some (.inl (some (.int (oN (ff (fun k => p_pl P k = x) k n)))), (I, τ)) := by
    intro n
    induction n with
    | zero =>
      intro k hk
      rw [b_66_2]
      have e : ¬ k < p_ns P := by omega
      simp (disch := omega) only [rd_I_mk, rd_R_mk, rd_L_mk, rd_D_mk, kd_mk, wr_I_mk, cp_mk, gd_true, bd_ret, bd_thr, vl_none, vl_some, iN_add, iN_mul, iN_sub, iN_lt, iN_eq, iN_n, iN_m1, iN_pred, vp_iN, K0_le, nr_b0, nr_b1, m1_lt, lt_m1, iN_ne_m1, m1_ne_iN, not_lt_z, true_and, and_true, and_self, or_true, true_or, or_false, false_or, if_true, if_false, ↓reduceIte, eq_self, ne_eq, not_false_eq_true, not_true_eq_false, k0, r2, e, ff, oN]
    | succ n ih =>
      intro k hk
      rw [b_66_2]
      have e : k < p_ns P := by omega
      have e2 := w4 k e
      simp (disch := omega) only [rd_I_mk, rd_R_mk, rd_L_mk, rd_D_mk, kd_mk, wr_I_mk, cp_mk, gd_true, bd_ret, bd_thr, vl_none, vl_some, iN_add, iN_mul, iN_sub, iN_lt, iN_eq, iN_n, iN_m1, iN_pred, vp_iN, K0_le, nr_b0, nr_b1, m1_lt, lt_m1, iN_ne_m1, m1_ne_iN, not_lt_z, true_and, and_true, and_self, or_true, true_or, or_false, false_or, if_true, if_false, ↓reduceIte, eq_self, ne_eq, not_false_eq_true, not_true_eq_false, k0, r2, e, k4, q3, r5, ff]
      by_cases hf : p_pl P k = x
      · rw [if_pos hf, if_pos hf]; rfl
      · rw [if_neg hf, if_neg hf]
        exact ih (k + 1) (by omega)
  rw [c_66, b_66_0]
  exact lp _ 0 (by omega)
end PZ
