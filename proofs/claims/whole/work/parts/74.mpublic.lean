/-! THE MODEL: the calls that change it -/
theorem mo_b {n : Nat} (h : n < 128) : ((iN n).toUInt32 % 65536).toInt32 = iN n := by
  have := ch_b n h
  have e : iN n &&& iN 255 = iN n := by revert n; decide +kernel
  rw [e] at this
  exact this
section MPU
variable {d : Nat} {I : qq_I} {τ : qq_R} {m B : Nat} {C : sC}
theorem heC_b {g : Nat} {S : sS} {x : Int32} : ∃ n, n < 128 ∧ mV g (o_hea S x).1 = iN n := by
  unfold mV
  split
  · unfold o_hea
    cases fiX (s_U S) x with
    | none => exact ⟨0, by omega, rfl⟩
    | some k =>
      refine ⟨heC S k, ?_, rfl⟩
      unfold heC
      split <;> omega
  · exact ⟨0, by omega, rfl⟩
theorem n_ped (h : R_N I τ m B C) (hB : B + 660 ≤ 900000) (hw' : wS (B + 660) (g_S (mS (ft_ped (g_S C)) C (o_ped (g_S C)).2))) : ∃ I', CC (d + 40) 223 [.ref m] (I, τ) = some (.inl (some (.int (mV (ft_ped (g_S C)) (o_ped (g_S C)).1))), (I', τ)) ∧ PN m I I' τ (B + 660) (tc [115] (ft_ped (g_S C))) (mS (ft_ped (g_S C)) C (o_ped (g_S C)).2) := by
  obtain ⟨e1, -, e3⟩ := kp_R (d := d + 38) h
  obtain ⟨J, s1, s2⟩ := m_ped (d := d + 38) h.1 e1 h.2.2.1 
  obtain ⟨I', t1, t2⟩ := m_fin (d := d + 38) (v := (o_ped (g_S C)).1) h hB (by decide) s2 hw'
  refine ⟨I', ?_, t2⟩
  have k0 := h.1.2.1
  rw [c_223, b_223_0]
  simp (disch := omega) only [rd_I_mk, rd_R_mk, rd_L_mk, rd_D_mk, kd_mk, wr_I_mk, cp_mk, gd_true, bd_ret, bd_thr, vl_none, vl_some, iN_add, iN_mul, iN_sub, iN_lt, iN_eq, iN_n, iN_m1, iN_pred, vp_iN, K0_le, nr_b0, nr_b1, m1_lt, lt_m1, iN_ne_m1, m1_ne_iN, not_lt_z, true_and, and_true, and_self, or_true, true_or, or_false, false_or, if_true, if_false, ↓reduceIte, eq_self, up_at, up_a, up_k, cp_c, cp_b, Nat.zero_add, Nat.add_zero, Nat.sub_zero, Nat.le_refl, Nat.add_sub_cancel, fu_at, fu_ne, iN_nz, n10_f, n01_f, ofN, qq_at_100, k110b, Nat.lt_irrefl, Nat.not_lt_zero, ne_eq, not_false_eq_true, not_true_eq_false, k0, e3, b_223_2, s1, b_223_5, t1, b_223_6]
theorem n_arr (h : R_N I τ m B C) (hB : B + 660 ≤ 900000) (x y : Int32) (hw' : wS (B + 660) (g_S (mS (ft_arr (g_S C) x y) C (o_arr (g_S C) x y).2))) : ∃ I', CC (d + 40) 225 [.ref m, .int x, .int y] (I, τ) = some (.inl (some (.int (mV (ft_arr (g_S C) x y) (o_arr (g_S C) x y).1))), (I', τ)) ∧ PN m I I' τ (B + 660) (tc [105] (ft_arr (g_S C) x y)) (mS (ft_arr (g_S C) x y) C (o_arr (g_S C) x y).2) := by
  obtain ⟨e1, -, e3⟩ := kp_R (d := d + 38) h
  obtain ⟨J, s1, s2⟩ := m_arr (d := d + 37) h.1 e1 h.2.2.1 x y
  obtain ⟨I', t1, t2⟩ := m_fin (d := d + 38) (v := (o_arr (g_S C) x y).1) h hB (by decide) s2 hw'
  refine ⟨I', ?_, t2⟩
  have k0 := h.1.2.1
  rw [c_225, b_225_0]
  simp (disch := omega) only [rd_I_mk, rd_R_mk, rd_L_mk, rd_D_mk, kd_mk, wr_I_mk, cp_mk, gd_true, bd_ret, bd_thr, vl_none, vl_some, iN_add, iN_mul, iN_sub, iN_lt, iN_eq, iN_n, iN_m1, iN_pred, vp_iN, K0_le, nr_b0, nr_b1, m1_lt, lt_m1, iN_ne_m1, m1_ne_iN, not_lt_z, true_and, and_true, and_self, or_true, true_or, or_false, false_or, if_true, if_false, ↓reduceIte, eq_self, up_at, up_a, up_k, cp_c, cp_b, Nat.zero_add, Nat.add_zero, Nat.sub_zero, Nat.le_refl, Nat.add_sub_cancel, fu_at, fu_ne, iN_nz, n10_f, n01_f, ofN, qq_at_100, k110b, Nat.lt_irrefl, Nat.not_lt_zero, ne_eq, not_false_eq_true, not_true_eq_false, k0, e3, b_225_2, s1, b_225_7, t1, b_225_8]
theorem n_sta (h : R_N I τ m B C) (hB : B + 660 ≤ 900000) (x y : Int32) (hw' : wS (B + 660) (g_S (mS (ft_sta (g_S C) x y) C (o_sta (g_S C) x y).2))) : ∃ I', CC (d + 40) 227 [.ref m, .int x, .int y] (I, τ) = some (.inl (some (.int (mV (ft_sta (g_S C) x y) (o_sta (g_S C) x y).1))), (I', τ)) ∧ PN m I I' τ (B + 660) (tc [105, 97, 115] (ft_sta (g_S C) x y)) (mS (ft_sta (g_S C) x y) C (o_sta (g_S C) x y).2) := by
  obtain ⟨e1, -, e3⟩ := kp_R (d := d + 38) h
  obtain ⟨J, s1, s2⟩ := m_sta (d := d + 37) h.1 e1 h.2.2.1 x y
  obtain ⟨I', t1, t2⟩ := m_fin (d := d + 38) (v := (o_sta (g_S C) x y).1) h hB (by decide) s2 hw'
  refine ⟨I', ?_, t2⟩
  have k0 := h.1.2.1
  rw [c_227, b_227_0]
  simp (disch := omega) only [rd_I_mk, rd_R_mk, rd_L_mk, rd_D_mk, kd_mk, wr_I_mk, cp_mk, gd_true, bd_ret, bd_thr, vl_none, vl_some, iN_add, iN_mul, iN_sub, iN_lt, iN_eq, iN_n, iN_m1, iN_pred, vp_iN, K0_le, nr_b0, nr_b1, m1_lt, lt_m1, iN_ne_m1, m1_ne_iN, not_lt_z, true_and, and_true, and_self, or_true, true_or, or_false, false_or, if_true, if_false, ↓reduceIte, eq_self, up_at, up_a, up_k, cp_c, cp_b, Nat.zero_add, Nat.add_zero, Nat.sub_zero, Nat.le_refl, Nat.add_sub_cancel, fu_at, fu_ne, iN_nz, n10_f, n01_f, ofN, qq_at_100, k110b, Nat.lt_irrefl, Nat.not_lt_zero, ne_eq, not_false_eq_true, not_true_eq_false, k0, e3, b_227_2, s1, b_227_7, t1, b_227_8]
theorem n_hom (h : R_N I τ m B C) (hB : B + 660 ≤ 900000) (x y : Int32) (hw' : wS (B + 660) (g_S (mS (ft_hom (g_S C) x y) C (o_hom (g_S C) x y).2))) : ∃ I', CC (d + 40) 229 [.ref m, .int x, .int y] (I, τ) = some (.inl (some (.int (mV (ft_hom (g_S C) x y) (o_hom (g_S C) x y).1))), (I', τ)) ∧ PN m I I' τ (B + 660) (tc [105] (ft_hom (g_S C) x y)) (mS (ft_hom (g_S C) x y) C (o_hom (g_S C) x y).2) := by
  obtain ⟨e1, -, e3⟩ := kp_R (d := d + 38) h
  obtain ⟨J, s1, s2⟩ := m_hom (d := d + 37) h.1 e1 h.2.2.1 x y
  obtain ⟨I', t1, t2⟩ := m_fin (d := d + 38) (v := (o_hom (g_S C) x y).1) h hB (by decide) s2 hw'
  refine ⟨I', ?_, t2⟩
  have k0 := h.1.2.1
  rw [c_229, b_229_0]
  simp (disch := omega) only [rd_I_mk, rd_R_mk, rd_L_mk, rd_D_mk, kd_mk, wr_I_mk, cp_mk, gd_true, bd_ret, bd_thr, vl_none, vl_some, iN_add, iN_mul, iN_sub, iN_lt, iN_eq, iN_n, iN_m1, iN_pred, vp_iN, K0_le, nr_b0, nr_b1, m1_lt, lt_m1, iN_ne_m1, m1_ne_iN, not_lt_z, true_and, and_true, and_self, or_true, true_or, or_false, false_or, if_true, if_false, ↓reduceIte, eq_self, up_at, up_a, up_k, cp_c, cp_b, Nat.zero_add, Nat.add_zero, Nat.sub_zero, Nat.le_refl, Nat.add_sub_cancel, fu_at, fu_ne, iN_nz, n10_f, n01_f, ofN, qq_at_100, k110b, Nat.lt_irrefl, Nat.not_lt_zero, ne_eq, not_false_eq_true, not_true_eq_false, k0, e3, b_229_2, s1, b_229_7, t1, b_229_8]
theorem n_wri (h : R_N I τ m B C) (hB : B + 660 ≤ 900000) (x n y : Int32) (hw' : wS (B + 660) (g_S (mS (ft_wri (g_S C) x n y) C (o_wri (g_S C) x n y).2))) : ∃ I', CC (d + 40) 233 [.ref m, .int x, .int n, .int y] (I, τ) = some (.inl (some (.int (mV (ft_wri (g_S C) x n y) (o_wri (g_S C) x n y).1))), (I', τ)) ∧ PN m I I' τ (B + 660) (tc [105, 97, 115] (ft_wri (g_S C) x n y)) (mS (ft_wri (g_S C) x n y) C (o_wri (g_S C) x n y).2) := by
  obtain ⟨e1, -, e3⟩ := kp_R (d := d + 38) h
  obtain ⟨J, s1, s2⟩ := m_wri (d := d + 36) h.1 e1 h.2.2.1 x n y
  obtain ⟨I', t1, t2⟩ := m_fin (d := d + 38) (v := (o_wri (g_S C) x n y).1) h hB (by decide) s2 hw'
  refine ⟨I', ?_, t2⟩
  have k0 := h.1.2.1
  rw [c_233, b_233_0]
  simp (disch := omega) only [rd_I_mk, rd_R_mk, rd_L_mk, rd_D_mk, kd_mk, wr_I_mk, cp_mk, gd_true, bd_ret, bd_thr, vl_none, vl_some, iN_add, iN_mul, iN_sub, iN_lt, iN_eq, iN_n, iN_m1, iN_pred, vp_iN, K0_le, nr_b0, nr_b1, m1_lt, lt_m1, iN_ne_m1, m1_ne_iN, not_lt_z, true_and, and_true, and_self, or_true, true_or, or_false, false_or, if_true, if_false, ↓reduceIte, eq_self, up_at, up_a, up_k, cp_c, cp_b, Nat.zero_add, Nat.add_zero, Nat.sub_zero, Nat.le_refl, Nat.add_sub_cancel, fu_at, fu_ne, iN_nz, n10_f, n01_f, ofN, qq_at_100, k110b, Nat.lt_irrefl, Nat.not_lt_zero, ne_eq, not_false_eq_true, not_true_eq_false, k0, e3, b_233_2, s1, b_233_8, t1, b_233_9]
theorem n_fol (h : R_N I τ m B C) (hB : B + 660 ≤ 900000) (x n y c : Int32) (hw' : wS (B + 660) (g_S (mS (ft_fol (g_S C) x n y c) C (o_fol (g_S C) x n y c).2))) : ∃ I', CC (d + 40) 235 [.ref m, .int x, .int n, .int y, .int c] (I, τ) = some (.inl (some (.int (mV (ft_fol (g_S C) x n y c) (o_fol (g_S C) x n y c).1))), (I', τ)) ∧ PN m I I' τ (B + 660) (tc [105, 97, 101, 115] (ft_fol (g_S C) x n y c)) (mS (ft_fol (g_S C) x n y c) C (o_fol (g_S C) x n y c).2) := by
  obtain ⟨e1, -, e3⟩ := kp_R (d := d + 38) h
  obtain ⟨J, s1, s2⟩ := m_fol (d := d + 36) h.1 e1 h.2.2.1 x n y c
  obtain ⟨I', t1, t2⟩ := m_fin (d := d + 38) (v := (o_fol (g_S C) x n y c).1) h hB (by decide) s2 hw'
  refine ⟨I', ?_, t2⟩
  have k0 := h.1.2.1
  rw [c_235, b_235_0]
  simp (disch := omega) only [rd_I_mk, rd_R_mk, rd_L_mk, rd_D_mk, kd_mk, wr_I_mk, cp_mk, gd_true, bd_ret, bd_thr, vl_none, vl_some, iN_add, iN_mul, iN_sub, iN_lt, iN_eq, iN_n, iN_m1, iN_pred, vp_iN, K0_le, nr_b0, nr_b1, m1_lt, lt_m1, iN_ne_m1, m1_ne_iN, not_lt_z, true_and, and_true, and_self, or_true, true_or, or_false, false_or, if_true, if_false, ↓reduceIte, eq_self, up_at, up_a, up_k, cp_c, cp_b, Nat.zero_add, Nat.add_zero, Nat.sub_zero, Nat.le_refl, Nat.add_sub_cancel, fu_at, fu_ne, iN_nz, n10_f, n01_f, ofN, qq_at_100, k110b, Nat.lt_irrefl, Nat.not_lt_zero, ne_eq, not_false_eq_true, not_true_eq_false, k0, e3, b_235_2, s1, b_235_9, t1, b_235_10]
theorem n_blk (h : R_N I τ m B C) (hB : B + 660 ≤ 900000) (x y : Int32) (hw' : wS (B + 660) (g_S (mS (ft_blk (g_S C) x y) C (o_blk (g_S C) x y).2))) : ∃ I', CC (d + 40) 240 [.ref m, .int x, .int y] (I, τ) = some (.inl (some (.int (mV (ft_blk (g_S C) x y) (o_blk (g_S C) x y).1))), (I', τ)) ∧ PN m I I' τ (B + 660) (tc [97, 115] (ft_blk (g_S C) x y)) (mS (ft_blk (g_S C) x y) C (o_blk (g_S C) x y).2) := by
  obtain ⟨e1, -, e3⟩ := kp_R (d := d + 38) h
  obtain ⟨J, s1, s2⟩ := m_blk (d := d + 38) h.1 e1 h.2.2.1 x y
  obtain ⟨I', t1, t2⟩ := m_fin (d := d + 38) (v := (o_blk (g_S C) x y).1) h hB (by decide) s2 hw'
  refine ⟨I', ?_, t2⟩
  have k0 := h.1.2.1
  rw [c_240, b_240_0]
  simp (disch := omega) only [rd_I_mk, rd_R_mk, rd_L_mk, rd_D_mk, kd_mk, wr_I_mk, cp_mk, gd_true, bd_ret, bd_thr, vl_none, vl_some, iN_add, iN_mul, iN_sub, iN_lt, iN_eq, iN_n, iN_m1, iN_pred, vp_iN, K0_le, nr_b0, nr_b1, m1_lt, lt_m1, iN_ne_m1, m1_ne_iN, not_lt_z, true_and, and_true, and_self, or_true, true_or, or_false, false_or, if_true, if_false, ↓reduceIte, eq_self, up_at, up_a, up_k, cp_c, cp_b, Nat.zero_add, Nat.add_zero, Nat.sub_zero, Nat.le_refl, Nat.add_sub_cancel, fu_at, fu_ne, iN_nz, n10_f, n01_f, ofN, qq_at_100, k110b, Nat.lt_irrefl, Nat.not_lt_zero, ne_eq, not_false_eq_true, not_true_eq_false, k0, e3, b_240_2, s1, b_240_7, t1, b_240_8]
theorem n_pay (h : R_N I τ m B C) (hB : B + 660 ≤ 900000) (x : Int32) (hw' : wS (B + 660) (g_S (mS (ft_pay (g_S C) x) C (o_pay (g_S C) x).2))) : ∃ I', CC (d + 40) 245 [.ref m, .int x] (I, τ) = some (.inl (some (.int (mV (ft_pay (g_S C) x) (o_pay (g_S C) x).1))), (I', τ)) ∧ PN m I I' τ (B + 660) (tc [101, 115, 117] (ft_pay (g_S C) x)) (mS (ft_pay (g_S C) x) C (o_pay (g_S C) x).2) := by
  obtain ⟨e1, -, e3⟩ := kp_R (d := d + 38) h
  obtain ⟨J, s1, s2⟩ := m_pay (d := d + 37) h.1 e1 h.2.2.1 x
  obtain ⟨I', t1, t2⟩ := m_fin (d := d + 38) (v := (o_pay (g_S C) x).1) h hB (by decide) s2 hw'
  refine ⟨I', ?_, t2⟩
  have k0 := h.1.2.1
  rw [c_245, b_245_0]
  simp (disch := omega) only [rd_I_mk, rd_R_mk, rd_L_mk, rd_D_mk, kd_mk, wr_I_mk, cp_mk, gd_true, bd_ret, bd_thr, vl_none, vl_some, iN_add, iN_mul, iN_sub, iN_lt, iN_eq, iN_n, iN_m1, iN_pred, vp_iN, K0_le, nr_b0, nr_b1, m1_lt, lt_m1, iN_ne_m1, m1_ne_iN, not_lt_z, true_and, and_true, and_self, or_true, true_or, or_false, false_or, if_true, if_false, ↓reduceIte, eq_self, up_at, up_a, up_k, cp_c, cp_b, Nat.zero_add, Nat.add_zero, Nat.sub_zero, Nat.le_refl, Nat.add_sub_cancel, fu_at, fu_ne, iN_nz, n10_f, n01_f, ofN, qq_at_100, k110b, Nat.lt_irrefl, Nat.not_lt_zero, ne_eq, not_false_eq_true, not_true_eq_false, k0, e3, b_245_2, s1, b_245_6, t1, b_245_7]
theorem n_hea (h : R_N I τ m B C) (hB : B + 660 ≤ 900000) (x : Int32) (hw' : wS (B + 660) (g_S (mS (ft_hea (g_S C) x) C (o_hea (g_S C) x).2))) : ∃ I', CC (d + 40) 248 [.ref m, .int x] (I, τ) = some (.inl (some (.int (mV (ft_hea (g_S C) x) (o_hea (g_S C) x).1))), (I', τ)) ∧ PN m I I' τ (B + 660) (tc [101, 115] (ft_hea (g_S C) x)) (mS (ft_hea (g_S C) x) C (o_hea (g_S C) x).2) := by
  obtain ⟨e1, -, e3⟩ := kp_R (d := d + 38) h
  obtain ⟨J, s1, s2⟩ := m_hea (d := d + 34) h.1 e1 h.2.2.1 x
  obtain ⟨I', t1, t2⟩ := m_fin (d := d + 38) (v := (o_hea (g_S C) x).1) h hB (by decide) s2 hw'
  refine ⟨I', ?_, t2⟩
  have k0 := h.1.2.1
  rw [c_248, b_248_0]
  obtain ⟨n, n1, n2⟩ := heC_b (g := (ft_hea (g_S C) x)) (S := (g_S C)) (x := x)
  rw [n2] at s1 t1 ⊢
  simp (disch := omega) only [rd_I_mk, rd_R_mk, rd_L_mk, rd_D_mk, kd_mk, wr_I_mk, cp_mk, gd_true, bd_ret, bd_thr, vl_none, vl_some, iN_add, iN_mul, iN_sub, iN_lt, iN_eq, iN_n, iN_m1, iN_pred, vp_iN, K0_le, nr_b0, nr_b1, m1_lt, lt_m1, iN_ne_m1, m1_ne_iN, not_lt_z, true_and, and_true, and_self, or_true, true_or, or_false, false_or, if_true, if_false, ↓reduceIte, eq_self, up_at, up_a, up_k, cp_c, cp_b, Nat.zero_add, Nat.add_zero, Nat.sub_zero, Nat.le_refl, Nat.add_sub_cancel, fu_at, fu_ne, iN_nz, n10_f, n01_f, ofN, qq_at_100, k110b, Nat.lt_irrefl, Nat.not_lt_zero, ne_eq, not_false_eq_true, not_true_eq_false, k0, e3, b_248_2, s1, b_248_6, t1, b_248_7, mo_b n1, nr_ch]
theorem n_nig (h : R_N I τ m B C) (hB : B + 660 ≤ 900000) (n : Int32) (hw' : wS (B + 660) (g_S (mS (ft_nig n) C (o_nig (g_S C) n).2))) : ∃ I', CC (d + 40) 255 [.ref m, .int n] (I, τ) = some (.inl (some (.int (mV (ft_nig n) (o_nig (g_S C) n).1))), (I', τ)) ∧ PN m I I' τ (B + 660) (tc [97] (ft_nig n)) (mS (ft_nig n) C (o_nig (g_S C) n).2) := by
  obtain ⟨e1, -, e3⟩ := kp_R (d := d + 38) h
  obtain ⟨J, s1, s2⟩ := m_nig (d := d + 35) h.1 e1 h.2.2.1 hB n
  obtain ⟨I', t1, t2⟩ := m_fin (d := d + 38) (v := (o_nig (g_S C) n).1) h hB (by decide) s2 hw'
  refine ⟨I', ?_, t2⟩
  have k0 := h.1.2.1
  rw [c_255, b_255_0]
  simp (disch := omega) only [rd_I_mk, rd_R_mk, rd_L_mk, rd_D_mk, kd_mk, wr_I_mk, cp_mk, gd_true, bd_ret, bd_thr, vl_none, vl_some, iN_add, iN_mul, iN_sub, iN_lt, iN_eq, iN_n, iN_m1, iN_pred, vp_iN, K0_le, nr_b0, nr_b1, m1_lt, lt_m1, iN_ne_m1, m1_ne_iN, not_lt_z, true_and, and_true, and_self, or_true, true_or, or_false, false_or, if_true, if_false, ↓reduceIte, eq_self, up_at, up_a, up_k, cp_c, cp_b, Nat.zero_add, Nat.add_zero, Nat.sub_zero, Nat.le_refl, Nat.add_sub_cancel, fu_at, fu_ne, iN_nz, n10_f, n01_f, ofN, qq_at_100, k110b, Nat.lt_irrefl, Nat.not_lt_zero, ne_eq, not_false_eq_true, not_true_eq_false, k0, e3, b_255_2, s1, b_255_6, t1, b_255_7]
end MPU
