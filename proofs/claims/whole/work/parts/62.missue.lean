/-! THE MODEL: issuing -/
section MI
variable {d : Nat} {I : qq_I} {τ : qq_R} {m B : Nat} {S : sS}
theorem MP_w {k : Nat} {a b c e f g h : Int32} : MP m I (uW I m k a b c e f g h) := by
  unfold uW
  exact MP_tr (MP_tr (MP_tr MP_s MP_s) (MP_tr MP_s MP_s)) (MP_tr (MP_tr MP_s MP_s) (MP_tr MP_s MP_s))
theorem uW_7 {k : Nat} {a b c e f g h : Int32} : uW I m k a b c e f g h m 7 = I m 7 := by
  unfold uW
  rw [up_c (by omega), up_c (by omega), up_c (by omega), up_c (by omega), up_c (by omega), up_c (by omega), up_c (by omega), up_c (by omega)]
theorem m_wri (hL : L_N τ m) (hR : R_F (I (m + 1)) S) (hw : wS B S) (x n y : Int32) : ∃ I', CC (d + 3) 232 [.ref m, .int x, .int n, .int y] (I, τ) = some (.inl (some (.int (mV (ft_wri S x n y) (o_wri S x n y).1))), (I', τ)) ∧ MC m I I' [105, 97, 115] (ft_wri S x n y) S (o_wri S x n y).2 := by
  have q1 := c_isNoWrit (d := d) hL hR hw x n y
  have hL0 := hL
  obtain ⟨m70, k0, r0, -, -, -, -, -, -, -, -, g1, -⟩ := hL
  have w3 := hw.2.2.1.1
  have w2 := hw.2.1.2.1
  unfold mV ft_wri
  by_cases z : ft_arg S x n y = 45
  · rw [if_pos z]
    have z1 : (!(ft_arg S x n y == 45)) = false := by rw [z]; rfl
    rw [z1, b01_f, z] at q1
    have hR7 : R_F (up_2 I m 7 (iN 0) (m + 1)) S := R_F_7 hR
    have h10 : up_2 I m 7 (iN 0) (m + 1) 10 = iN (un (s_U S)) := hR7.2.2.2.2.2.2.2.2.2.2.1
    have q1 : CC (d + 2) 231 [.ref m, .int x, .int n, .int y] (I, τ) = some (.inl (some (.int (iN 0))), (up_2 I m 7 (iN 0), τ)) := q1
    by_cases z8 : un (s_U S) < 8
    · have z9 : ¬ un (s_U S) = 8 := by omega
      rw [if_pos z8, if_pos rfl]
      obtain ⟨⟨j, hj, rfl⟩, ⟨k, hk, rfl⟩, e, he1, he2, rfl⟩ := arg_ok hw z
      unfold o_wri
      rw [tn_iN (by omega), tn_iN (by omega), tn_iN (by omega)]
      obtain ⟨q2, q3⟩ := c_comes (d := d + 1) hL0 hR7 hw z8 (of := j) (n := k) (ba := e) (ca := 0) (by omega)
      refine ⟨_, ?_, ⟨by rw [if_pos rfl]; exact q3, by rw [uW_7, up_at]; rfl, MP_tr MP_7 MP_w⟩⟩
      rw [c_232, b_232_0]
      simp (disch := omega) only [rd_I_mk, rd_R_mk, rd_L_mk, rd_D_mk, kd_mk, wr_I_mk, cp_mk, gd_true, bd_ret, bd_thr, vl_none, vl_some, iN_add, iN_mul, iN_sub, iN_lt, iN_eq, iN_n, iN_m1, iN_pred, vp_iN, K0_le, nr_b0, nr_b1, m1_lt, lt_m1, iN_ne_m1, m1_ne_iN, not_lt_z, true_and, and_true, and_self, or_true, true_or, or_false, false_or, if_true, if_false, ↓reduceIte, eq_self, up_at, up_a, up_k, cp_c, cp_b, Nat.zero_add, Nat.add_zero, Nat.sub_zero, Nat.le_refl, Nat.add_sub_cancel, fu_at, fu_ne, iN_nz, n10_f, n01_f, ofN, qq_at_100, k110b, Nat.lt_irrefl, Nat.not_lt_zero, ne_eq, not_false_eq_true, not_true_eq_false, k0, q1, b_232_5, r0, g1, h10, z9, b_232_16, thF k0 m70, up_up, b_232_18, q2, b_232_27]
    · have z9 : un (s_U S) = 8 := by omega
      rw [if_neg z8]
      rw [z9] at h10
      refine ⟨up_2 I m 7 (iN 3), ?_, MC_thr (R_F_7 hR) MP_7 (by omega) up_at rfl⟩
      rw [c_232, b_232_0]
      simp (disch := omega) only [rd_I_mk, rd_R_mk, rd_L_mk, rd_D_mk, kd_mk, wr_I_mk, cp_mk, gd_true, bd_ret, bd_thr, vl_none, vl_some, iN_add, iN_mul, iN_sub, iN_lt, iN_eq, iN_n, iN_m1, iN_pred, vp_iN, K0_le, nr_b0, nr_b1, m1_lt, lt_m1, iN_ne_m1, m1_ne_iN, not_lt_z, true_and, and_true, and_self, or_true, true_or, or_false, false_or, if_true, if_false, ↓reduceIte, eq_self, up_at, up_a, up_k, cp_c, cp_b, Nat.zero_add, Nat.add_zero, Nat.sub_zero, Nat.le_refl, Nat.add_sub_cancel, fu_at, fu_ne, iN_nz, n10_f, n01_f, ofN, qq_at_100, k110b, Nat.lt_irrefl, Nat.not_lt_zero, ne_eq, not_false_eq_true, not_true_eq_false, k0, q1, b_232_5, r0, g1, h10, b_232_16, thT k0 m70, up_up, b_232_18, b_232_19]
      rfl
  · rw [if_neg z]
    have z1 : (!(ft_arg S x n y == 45)) = true := by rw [beq_eq_false_iff_ne.mpr z]; rfl
    rw [z1, b01_t] at q1
    have ht : tc [105, 97, 115] (ft_arg S x n y) = tc [105, 97] (ft_arg S x n y) := by
      unfold ft_arg
      split
      · rfl
      · split <;> rfl
    refine ⟨_, ?_, MC_thr (R_F_7 hR) MP_7 z up_at ht⟩
    rw [if_neg z, c_232, b_232_0]
    simp (disch := omega) only [rd_I_mk, rd_R_mk, rd_L_mk, rd_D_mk, kd_mk, wr_I_mk, cp_mk, gd_true, bd_ret, bd_thr, vl_none, vl_some, iN_add, iN_mul, iN_sub, iN_lt, iN_eq, iN_n, iN_m1, iN_pred, vp_iN, K0_le, nr_b0, nr_b1, m1_lt, lt_m1, iN_ne_m1, m1_ne_iN, not_lt_z, true_and, and_true, and_self, or_true, true_or, or_false, false_or, if_true, if_false, ↓reduceIte, eq_self, up_at, up_a, up_k, cp_c, cp_b, Nat.zero_add, Nat.add_zero, Nat.sub_zero, Nat.le_refl, Nat.add_sub_cancel, fu_at, fu_ne, iN_nz, n10_f, n01_f, ofN, qq_at_100, k110b, Nat.lt_irrefl, Nat.not_lt_zero, ne_eq, not_false_eq_true, not_true_eq_false, k0, q1, b_232_5, b_232_19]
theorem m_fol (hL : L_N τ m) (hR : R_F (I (m + 1)) S) (hw : wS B S) (x n y c : Int32) : ∃ I', CC (d + 3) 234 [.ref m, .int x, .int n, .int y, .int c] (I, τ) = some (.inl (some (.int (mV (ft_fol S x n y c) (o_fol S x n y c).1))), (I', τ)) ∧ MC m I I' [105, 97, 101, 115] (ft_fol S x n y c) S (o_fol S x n y c).2 := by
  have q1 := c_isNoWrit (d := d) hL hR hw x n y
  have hL0 := hL
  obtain ⟨m70, k0, r0, -, -, -, -, -, -, -, -, g1, -⟩ := hL
  have w3 := hw.2.2.1.1
  have w2 := hw.2.1.2.1
  unfold mV ft_fol
  by_cases z : ft_arg S x n y = 45
  · rw [if_pos z]
    have z1 : (!(ft_arg S x n y == 45)) = false := by rw [z]; rfl
    rw [z1, b01_f, z] at q1
    have hR7 : R_F (up_2 I m 7 (iN 0) (m + 1)) S := R_F_7 hR
    have h10 : up_2 I m 7 (iN 0) (m + 1) 10 = iN (un (s_U S)) := hR7.2.2.2.2.2.2.2.2.2.2.1
    have q1 : CC (d + 2) 231 [.ref m, .int x, .int n, .int y] (I, τ) = some (.inl (some (.int (iN 0))), (up_2 I m 7 (iN 0), τ)) := q1
    have q4 := c_at (d := d + 1) hL0 hR7 hw c
    cases hc : fiX (s_U S) c with
    | none =>
      rw [hc] at q4
      rw [if_pos rfl]
      refine ⟨up_2 I m 7 (iN 3), ?_, MC_thr (R_F_7 hR) MP_7 (by omega) up_at rfl⟩
      rw [c_234, b_234_0]
      simp (disch := omega) only [rd_I_mk, rd_R_mk, rd_L_mk, rd_D_mk, kd_mk, wr_I_mk, cp_mk, gd_true, bd_ret, bd_thr, vl_none, vl_some, iN_add, iN_mul, iN_sub, iN_lt, iN_eq, iN_n, iN_m1, iN_pred, vp_iN, K0_le, nr_b0, nr_b1, m1_lt, lt_m1, iN_ne_m1, m1_ne_iN, not_lt_z, true_and, and_true, and_self, or_true, true_or, or_false, false_or, if_true, if_false, ↓reduceIte, eq_self, up_at, up_a, up_k, cp_c, cp_b, Nat.zero_add, Nat.add_zero, Nat.sub_zero, Nat.le_refl, Nat.add_sub_cancel, fu_at, fu_ne, iN_nz, n10_f, n01_f, ofN, qq_at_100, k110b, Nat.lt_irrefl, Nat.not_lt_zero, ne_eq, not_false_eq_true, not_true_eq_false, k0, q1, b_234_5, q4, oN, b_234_10, b_234_14, thT k0 m70, up_up, b_234_16, b_234_30]
      rfl
    | some p =>
      have hp := fiX_lt hc
      have hpe := (ff_some _ _ _ hc).2.2.1
      have hpe : c = iN (w_id (ug (s_U S) p)) := (beq_iff_eq.mp hpe).symm
      rw [hc] at q4
      rw [if_neg (show ¬ (some p = none) by simp)]
      by_cases z8 : un (s_U S) < 8
      · have z9 : ¬ un (s_U S) = 8 := by omega
        rw [if_pos z8, if_pos rfl]
        obtain ⟨⟨j, hj, rfl⟩, ⟨k, hk, rfl⟩, e, he1, he2, rfl⟩ := arg_ok hw z
        have hid := (hw.2.2.1.2.2.2 p hp).1
        have hux := hw.2.2.1.2.1
        subst hpe
        unfold o_fol
        rw [tn_iN (by omega), tn_iN (by omega), tn_iN (by omega), tn_iN (by omega)]
        obtain ⟨q2, q3⟩ := c_comes (d := d + 1) hL0 hR7 hw z8 (of := j) (n := k) (ba := e) (ca := w_id (ug (s_U S) p) + 1) (by omega)
        refine ⟨_, ?_, ⟨by rw [if_pos rfl]; exact q3, by rw [uW_7, up_at]; rfl, MP_tr MP_7 MP_w⟩⟩
        rw [c_234, b_234_0]
        simp (disch := omega) only [rd_I_mk, rd_R_mk, rd_L_mk, rd_D_mk, kd_mk, wr_I_mk, cp_mk, gd_true, bd_ret, bd_thr, vl_none, vl_some, iN_add, iN_mul, iN_sub, iN_lt, iN_eq, iN_n, iN_m1, iN_pred, vp_iN, K0_le, nr_b0, nr_b1, m1_lt, lt_m1, iN_ne_m1, m1_ne_iN, not_lt_z, true_and, and_true, and_self, or_true, true_or, or_false, false_or, if_true, if_false, ↓reduceIte, eq_self, up_at, up_a, up_k, cp_c, cp_b, Nat.zero_add, Nat.add_zero, Nat.sub_zero, Nat.le_refl, Nat.add_sub_cancel, fu_at, fu_ne, iN_nz, n10_f, n01_f, ofN, qq_at_100, k110b, Nat.lt_irrefl, Nat.not_lt_zero, ne_eq, not_false_eq_true, not_true_eq_false, k0, q1, b_234_5, q4, oN, b_234_10, b_234_14, thF k0 m70, up_up, b_234_16, r0, g1, h10, z9, b_234_27, b_234_29, q2, b_234_40]
      · have z9 : un (s_U S) = 8 := by omega
        rw [if_neg z8]
        rw [z9] at h10
        refine ⟨up_2 I m 7 (iN 4), ?_, MC_thr (R_F_7 hR) MP_7 (by omega) up_at rfl⟩
        rw [c_234, b_234_0]
        simp (disch := omega) only [rd_I_mk, rd_R_mk, rd_L_mk, rd_D_mk, kd_mk, wr_I_mk, cp_mk, gd_true, bd_ret, bd_thr, vl_none, vl_some, iN_add, iN_mul, iN_sub, iN_lt, iN_eq, iN_n, iN_m1, iN_pred, vp_iN, K0_le, nr_b0, nr_b1, m1_lt, lt_m1, iN_ne_m1, m1_ne_iN, not_lt_z, true_and, and_true, and_self, or_true, true_or, or_false, false_or, if_true, if_false, ↓reduceIte, eq_self, up_at, up_a, up_k, cp_c, cp_b, Nat.zero_add, Nat.add_zero, Nat.sub_zero, Nat.le_refl, Nat.add_sub_cancel, fu_at, fu_ne, iN_nz, n10_f, n01_f, ofN, qq_at_100, k110b, Nat.lt_irrefl, Nat.not_lt_zero, ne_eq, not_false_eq_true, not_true_eq_false, k0, q1, b_234_5, q4, oN, b_234_10, b_234_14, thF k0 m70, thT k0 m70, up_up, b_234_16, r0, g1, h10, b_234_27, b_234_29, b_234_30]
        rfl
  · rw [if_neg z]
    have z1 : (!(ft_arg S x n y == 45)) = true := by rw [beq_eq_false_iff_ne.mpr z]; rfl
    rw [z1, b01_t] at q1
    have ht : tc [105, 97, 101, 115] (ft_arg S x n y) = tc [105, 97] (ft_arg S x n y) := by
      unfold ft_arg
      split
      · rfl
      · split <;> rfl
    refine ⟨_, ?_, MC_thr (R_F_7 hR) MP_7 z up_at ht⟩
    rw [if_neg z, c_234, b_234_0]
    simp (disch := omega) only [rd_I_mk, rd_R_mk, rd_L_mk, rd_D_mk, kd_mk, wr_I_mk, cp_mk, gd_true, bd_ret, bd_thr, vl_none, vl_some, iN_add, iN_mul, iN_sub, iN_lt, iN_eq, iN_n, iN_m1, iN_pred, vp_iN, K0_le, nr_b0, nr_b1, m1_lt, lt_m1, iN_ne_m1, m1_ne_iN, not_lt_z, true_and, and_true, and_self, or_true, true_or, or_false, false_or, if_true, if_false, ↓reduceIte, eq_self, up_at, up_a, up_k, cp_c, cp_b, Nat.zero_add, Nat.add_zero, Nat.sub_zero, Nat.le_refl, Nat.add_sub_cancel, fu_at, fu_ne, iN_nz, n10_f, n01_f, ofN, qq_at_100, k110b, Nat.lt_irrefl, Nat.not_lt_zero, ne_eq, not_false_eq_true, not_true_eq_false, k0, q1, b_234_5, b_234_30]
end MI
