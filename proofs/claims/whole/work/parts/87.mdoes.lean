/-! THE MODEL: a command carried out -/
theorem in_ped {S : sS} (h : ft_ped S ≠ 45) : ft_ped S ∈ [115] := by
  unfold ft_ped at h ⊢
  repeat' split
  all_goals first | decide | (simp_all; done)
theorem in_arr {S : sS} {x y : Int32} (h : ft_arr S x y ≠ 45) : ft_arr S x y ∈ [105] := by
  unfold ft_arr at h ⊢
  repeat' split
  all_goals first | decide | (simp_all; done)
theorem in_hom {S : sS} {x y : Int32} (h : ft_hom S x y ≠ 45) : ft_hom S x y ∈ [105] := by
  unfold ft_hom at h ⊢
  repeat' split
  all_goals first | decide | (simp_all; done)
theorem in_sta {S : sS} {x y : Int32} (h : ft_sta S x y ≠ 45) : ft_sta S x y ∈ [105, 97, 115] := by
  unfold ft_sta at h ⊢
  repeat' split
  all_goals first | decide | (simp_all; done)
theorem in_arg {S : sS} {x n y : Int32} : ft_arg S x n y = 45 ∨ ft_arg S x n y = 105 ∨ ft_arg S x n y = 97 := by
  unfold ft_arg
  repeat' split
  all_goals simp
theorem in_wri {S : sS} {x n y : Int32} (h : ft_wri S x n y ≠ 45) : ft_wri S x n y ∈ [105, 97, 115] := by
  unfold ft_wri at h ⊢
  rcases in_arg (S := S) (x := x) (n := n) (y := y) with e | e | e <;> rw [e] at h ⊢
  · rw [if_pos rfl] at h ⊢
    split
    · rename_i z; rw [if_pos z] at h; exact absurd rfl h
    · decide
  · rw [if_neg (by decide)]; decide
  · rw [if_neg (by decide)]; decide
theorem in_fol {S : sS} {x n y c : Int32} (h : ft_fol S x n y c ≠ 45) : ft_fol S x n y c ∈ [105, 97, 101, 115] := by
  unfold ft_fol at h ⊢
  rcases in_arg (S := S) (x := x) (n := n) (y := y) with e | e | e <;> rw [e] at h ⊢
  · rw [if_pos rfl] at h ⊢
    split
    · decide
    · rename_i z0
      rw [if_neg z0] at h
      split
      · rename_i z; rw [if_pos z] at h; exact absurd rfl h
      · decide
  · rw [if_neg (by decide)]; decide
  · rw [if_neg (by decide)]; decide
theorem in_blk {S : sS} {x y : Int32} (h : ft_blk S x y ≠ 45) : ft_blk S x y ∈ [97, 115] := by
  unfold ft_blk at h ⊢
  repeat' split
  all_goals first | decide | (simp_all; done)
theorem in_pay {S : sS} {x : Int32} (h : ft_pay S x ≠ 45) : ft_pay S x ∈ [101, 115, 117] := by
  unfold ft_pay at h ⊢
  repeat' split
  all_goals first | decide | (simp_all; done)
theorem in_hea {S : sS} {x : Int32} (h : ft_hea S x ≠ 45) : ft_hea S x ∈ [101, 115] := by
  unfold ft_hea at h ⊢
  repeat' split
  all_goals first | decide | (simp_all; done)
theorem in_nig {n : Int32} (h : ft_nig n ≠ 45) : ft_nig n ∈ [97] := by
  unfold ft_nig at h ⊢
  repeat' split
  all_goals first | decide | (simp_all; done)
section MDO
variable {d : Nat} {J : qq_I} {τ : qq_R} {m B b k : Nat} {S : sS} {a : List Nat}
theorem c_does (hL : L_N τ m) (hR : R_F (J (m + 1)) S) (hw : wS B S) (hB : B + 660 ≤ 900000) (hb : b + 5 ≤ 155) (hr : rowR (J (m + 9)) b k a) :
    ∃ l s v J', CC (d + 6) 322 [.ref m, .int (iN b)] (J, τ) = some (.inl (some (.int v)), (J', τ)) ∧ MC m J J' l (fo k S (aN a 0) (aN a 1) (aN a 2) (aN a 3)) S (oo k S (aN a 0) (aN a 1) (aN a 2) (aN a 3)) ∧ (s, l) ∈ ktab ∧ (∀ e σ, CC e 323 [.int (J (m + 9) b)] σ = some (.inl (some (.ref s)), σ)) ∧ (fo k S (aN a 0) (aN a 1) (aN a 2) (aN a 3) ≠ 45 → fo k S (aN a 0) (aN a 1) (aN a 2) (aN a 3) ∈ l) := by
  obtain ⟨m70, k0, r0, r1, r2, r3, r4, r5, r6, r7, r8, g1, g2, g3, g4, g5, g6, g7, g8, g9⟩ := id hL
  rcases hr with ⟨rfl, h0⟩ | ⟨rfl, h0, h1, h2⟩ | ⟨rfl, h0, h1, h2⟩ | ⟨rfl, h0, h1, h2⟩ | ⟨rfl, h0, h1, h2, h3, h4⟩ | ⟨rfl, h0, h1, h2, h3, h4, h5⟩ | ⟨rfl, h0, h1, h2⟩ | ⟨rfl, h0, h1⟩ | ⟨rfl, h0, h1⟩ | ⟨rfl, h0, h1⟩
  · have hfo : fo 0 S (aN a 0) (aN a 1) (aN a 2) (aN a 3) = ft_ped S := by unfold fo; simp only [Nat.reduceEqDiff, if_false, if_true]
    have hoo : oo 0 S (aN a 0) (aN a 1) (aN a 2) (aN a 3) = (o_ped S).2 := by unfold oo; simp only [Nat.reduceEqDiff, if_false, if_true]
    obtain ⟨J', t1, t2⟩ := m_ped (d := d + 4) (I := J) hL hR hw
    rw [hfo, hoo]
    refine ⟨[115], 23, mV (ft_ped S) (o_ped S).1, J', ?_, t2, by decide, fun e σ => ?_, in_ped⟩
    · rw [c_322, b_322_0]
      simp (disch := omega) only [rd_I_mk, rd_R_mk, rd_L_mk, rd_D_mk, kd_mk, wr_I_mk, cp_mk, gd_true, bd_ret, bd_thr, vl_none, vl_some, iN_add, iN_mul, iN_sub, iN_lt, iN_eq, iN_n, iN_m1, iN_pred, vp_iN, K0_le, nr_b0, nr_b1, m1_lt, lt_m1, iN_ne_m1, m1_ne_iN, not_lt_z, true_and, and_true, and_self, or_true, true_or, or_false, false_or, if_true, if_false, ↓reduceIte, eq_self, up_at, up_a, up_k, cp_c, cp_b, Nat.zero_add, Nat.add_zero, Nat.sub_zero, Nat.le_refl, Nat.add_sub_cancel, fu_at, fu_ne, iN_nz, n10_f, n01_f, ofN, qq_at_100, k110b, Nat.lt_irrefl, Nat.not_lt_zero, ne_eq, not_false_eq_true, not_true_eq_false, k0, r8, g9, h0, s_322_18_112, b_322_19, t1, b_322_21]
    · rw [h0, c_323, b_323_0, s_323_1_112, b_323_2]
  · have hfo : fo 1 S (aN a 0) (aN a 1) (aN a 2) (aN a 3) = ft_arr S (aN a 0) (aN a 1) := by unfold fo; simp only [Nat.reduceEqDiff, if_false, if_true]
    have hoo : oo 1 S (aN a 0) (aN a 1) (aN a 2) (aN a 3) = (o_arr S (aN a 0) (aN a 1)).2 := by unfold oo; simp only [Nat.reduceEqDiff, if_false, if_true]
    obtain ⟨J', t1, t2⟩ := m_arr (d := d + 3) (I := J) hL hR hw (aN a 0) (aN a 1)
    rw [hfo, hoo]
    refine ⟨[105], 33, mV (ft_arr S (aN a 0) (aN a 1)) (o_arr S (aN a 0) (aN a 1)).1, J', ?_, t2, by decide, fun e σ => ?_, in_arr⟩
    · rw [c_322, b_322_0]
      simp (disch := omega) only [rd_I_mk, rd_R_mk, rd_L_mk, rd_D_mk, kd_mk, wr_I_mk, cp_mk, gd_true, bd_ret, bd_thr, vl_none, vl_some, iN_add, iN_mul, iN_sub, iN_lt, iN_eq, iN_n, iN_m1, iN_pred, vp_iN, K0_le, nr_b0, nr_b1, m1_lt, lt_m1, iN_ne_m1, m1_ne_iN, not_lt_z, true_and, and_true, and_self, or_true, true_or, or_false, false_or, if_true, if_false, ↓reduceIte, eq_self, up_at, up_a, up_k, cp_c, cp_b, Nat.zero_add, Nat.add_zero, Nat.sub_zero, Nat.le_refl, Nat.add_sub_cancel, fu_at, fu_ne, iN_nz, n10_f, n01_f, ofN, qq_at_100, k110b, Nat.lt_irrefl, Nat.not_lt_zero, ne_eq, not_false_eq_true, not_true_eq_false, k0, r8, g9, h0, h1, h2, s_322_18_97, b_322_67, t1, b_322_71]
    · rw [h0, c_323, b_323_0, s_323_1_97, b_323_12]
  · have hfo : fo 2 S (aN a 0) (aN a 1) (aN a 2) (aN a 3) = ft_sta S (aN a 0) (aN a 1) := by unfold fo; simp only [Nat.reduceEqDiff, if_false, if_true]
    have hoo : oo 2 S (aN a 0) (aN a 1) (aN a 2) (aN a 3) = (o_sta S (aN a 0) (aN a 1)).2 := by unfold oo; simp only [Nat.reduceEqDiff, if_false, if_true]
    obtain ⟨J', t1, t2⟩ := m_sta (d := d + 3) (I := J) hL hR hw (aN a 0) (aN a 1)
    rw [hfo, hoo]
    refine ⟨[105, 97, 115], 37, mV (ft_sta S (aN a 0) (aN a 1)) (o_sta S (aN a 0) (aN a 1)).1, J', ?_, t2, by decide, fun e σ => ?_, in_sta⟩
    · rw [c_322, b_322_0]
      simp (disch := omega) only [rd_I_mk, rd_R_mk, rd_L_mk, rd_D_mk, kd_mk, wr_I_mk, cp_mk, gd_true, bd_ret, bd_thr, vl_none, vl_some, iN_add, iN_mul, iN_sub, iN_lt, iN_eq, iN_n, iN_m1, iN_pred, vp_iN, K0_le, nr_b0, nr_b1, m1_lt, lt_m1, iN_ne_m1, m1_ne_iN, not_lt_z, true_and, and_true, and_self, or_true, true_or, or_false, false_or, if_true, if_false, ↓reduceIte, eq_self, up_at, up_a, up_k, cp_c, cp_b, Nat.zero_add, Nat.add_zero, Nat.sub_zero, Nat.le_refl, Nat.add_sub_cancel, fu_at, fu_ne, iN_nz, n10_f, n01_f, ofN, qq_at_100, k110b, Nat.lt_irrefl, Nat.not_lt_zero, ne_eq, not_false_eq_true, not_true_eq_false, k0, r8, g9, h0, h1, h2, s_322_18_115, b_322_72, t1, b_322_76]
    · rw [h0, c_323, b_323_0, s_323_1_115, b_323_16]
  · have hfo : fo 3 S (aN a 0) (aN a 1) (aN a 2) (aN a 3) = ft_hom S (aN a 0) (aN a 1) := by unfold fo; simp only [Nat.reduceEqDiff, if_false, if_true]
    have hoo : oo 3 S (aN a 0) (aN a 1) (aN a 2) (aN a 3) = (o_hom S (aN a 0) (aN a 1)).2 := by unfold oo; simp only [Nat.reduceEqDiff, if_false, if_true]
    obtain ⟨J', t1, t2⟩ := m_hom (d := d + 3) (I := J) hL hR hw (aN a 0) (aN a 1)
    rw [hfo, hoo]
    refine ⟨[105], 33, mV (ft_hom S (aN a 0) (aN a 1)) (o_hom S (aN a 0) (aN a 1)).1, J', ?_, t2, by decide, fun e σ => ?_, in_hom⟩
    · rw [c_322, b_322_0]
      simp (disch := omega) only [rd_I_mk, rd_R_mk, rd_L_mk, rd_D_mk, kd_mk, wr_I_mk, cp_mk, gd_true, bd_ret, bd_thr, vl_none, vl_some, iN_add, iN_mul, iN_sub, iN_lt, iN_eq, iN_n, iN_m1, iN_pred, vp_iN, K0_le, nr_b0, nr_b1, m1_lt, lt_m1, iN_ne_m1, m1_ne_iN, not_lt_z, true_and, and_true, and_self, or_true, true_or, or_false, false_or, if_true, if_false, ↓reduceIte, eq_self, up_at, up_a, up_k, cp_c, cp_b, Nat.zero_add, Nat.add_zero, Nat.sub_zero, Nat.le_refl, Nat.add_sub_cancel, fu_at, fu_ne, iN_nz, n10_f, n01_f, ofN, qq_at_100, k110b, Nat.lt_irrefl, Nat.not_lt_zero, ne_eq, not_false_eq_true, not_true_eq_false, k0, r8, g9, h0, h1, h2, s_322_18_104, b_322_26, t1, b_322_30]
    · rw [h0, c_323, b_323_0, s_323_1_104, b_323_12]
  · have hfo : fo 4 S (aN a 0) (aN a 1) (aN a 2) (aN a 3) = ft_wri S (aN a 0) (aN a 1) (aN a 2) := by unfold fo; simp only [Nat.reduceEqDiff, if_false, if_true, if_pos h4]
    have hoo : oo 4 S (aN a 0) (aN a 1) (aN a 2) (aN a 3) = (o_wri S (aN a 0) (aN a 1) (aN a 2)).2 := by unfold oo; simp only [Nat.reduceEqDiff, if_false, if_true, if_pos h4]
    obtain ⟨J', t1, t2⟩ := m_wri (d := d + 2) (I := J) hL hR hw (aN a 0) (aN a 1) (aN a 2)
    rw [hfo, hoo]
    refine ⟨[105, 97, 115], 37, mV (ft_wri S (aN a 0) (aN a 1) (aN a 2)) (o_wri S (aN a 0) (aN a 1) (aN a 2)).1, J', ?_, t2, by decide, fun e σ => ?_, in_wri⟩
    · rw [c_322, b_322_0]
      simp (disch := omega) only [rd_I_mk, rd_R_mk, rd_L_mk, rd_D_mk, kd_mk, wr_I_mk, cp_mk, gd_true, bd_ret, bd_thr, vl_none, vl_some, iN_add, iN_mul, iN_sub, iN_lt, iN_eq, iN_n, iN_m1, iN_pred, vp_iN, K0_le, nr_b0, nr_b1, m1_lt, lt_m1, iN_ne_m1, m1_ne_iN, not_lt_z, true_and, and_true, and_self, or_true, true_or, or_false, false_or, if_true, if_false, ↓reduceIte, eq_self, up_at, up_a, up_k, cp_c, cp_b, Nat.zero_add, Nat.add_zero, Nat.sub_zero, Nat.le_refl, Nat.add_sub_cancel, fu_at, fu_ne, iN_nz, n10_f, n01_f, ofN, qq_at_100, k110b, Nat.lt_irrefl, Nat.not_lt_zero, ne_eq, not_false_eq_true, not_true_eq_false, k0, r8, g9, h0, h1, h2, h3, s_322_18_119, b_322_35, t1, b_322_45]
    · rw [h0, c_323, b_323_0, s_323_1_119, b_323_16]
  · have hfo : fo 4 S (aN a 0) (aN a 1) (aN a 2) (aN a 3) = ft_fol S (aN a 0) (aN a 1) (aN a 2) (aN a 3) := by unfold fo; simp only [Nat.reduceEqDiff, if_false, if_true, if_neg h5]
    have hoo : oo 4 S (aN a 0) (aN a 1) (aN a 2) (aN a 3) = (o_fol S (aN a 0) (aN a 1) (aN a 2) (aN a 3)).2 := by unfold oo; simp only [Nat.reduceEqDiff, if_false, if_true, if_neg h5]
    obtain ⟨J', t1, t2⟩ := m_fol (d := d + 2) (I := J) hL hR hw (aN a 0) (aN a 1) (aN a 2) (aN a 3)
    rw [hfo, hoo]
    refine ⟨[105, 97, 101, 115], 29, mV (ft_fol S (aN a 0) (aN a 1) (aN a 2) (aN a 3)) (o_fol S (aN a 0) (aN a 1) (aN a 2) (aN a 3)).1, J', ?_, t2, by decide, fun e σ => ?_, in_fol⟩
    · rw [c_322, b_322_0]
      simp (disch := omega) only [rd_I_mk, rd_R_mk, rd_L_mk, rd_D_mk, kd_mk, wr_I_mk, cp_mk, gd_true, bd_ret, bd_thr, vl_none, vl_some, iN_add, iN_mul, iN_sub, iN_lt, iN_eq, iN_n, iN_m1, iN_pred, vp_iN, K0_le, nr_b0, nr_b1, m1_lt, lt_m1, iN_ne_m1, m1_ne_iN, not_lt_z, true_and, and_true, and_self, or_true, true_or, or_false, false_or, if_true, if_false, ↓reduceIte, eq_self, up_at, up_a, up_k, cp_c, cp_b, Nat.zero_add, Nat.add_zero, Nat.sub_zero, Nat.le_refl, Nat.add_sub_cancel, fu_at, fu_ne, iN_nz, n10_f, n01_f, ofN, qq_at_100, k110b, Nat.lt_irrefl, Nat.not_lt_zero, ne_eq, not_false_eq_true, not_true_eq_false, k0, r8, g9, h0, h1, h2, h3, h4, s_322_18_102, b_322_46, t1, b_322_62]
    · rw [h0, c_323, b_323_0, s_323_1_102, b_323_8]
  · have hfo : fo 5 S (aN a 0) (aN a 1) (aN a 2) (aN a 3) = ft_blk S (aN a 0) (aN a 1) := by unfold fo; simp only [Nat.reduceEqDiff, if_false, if_true]
    have hoo : oo 5 S (aN a 0) (aN a 1) (aN a 2) (aN a 3) = (o_blk S (aN a 0) (aN a 1)).2 := by unfold oo; simp only [Nat.reduceEqDiff, if_false, if_true]
    obtain ⟨J', t1, t2⟩ := m_blk (d := d + 4) (I := J) hL hR hw (aN a 0) (aN a 1)
    rw [hfo, hoo]
    refine ⟨[97, 115], 35, mV (ft_blk S (aN a 0) (aN a 1)) (o_blk S (aN a 0) (aN a 1)).1, J', ?_, t2, by decide, fun e σ => ?_, in_blk⟩
    · rw [c_322, b_322_0]
      simp (disch := omega) only [rd_I_mk, rd_R_mk, rd_L_mk, rd_D_mk, kd_mk, wr_I_mk, cp_mk, gd_true, bd_ret, bd_thr, vl_none, vl_some, iN_add, iN_mul, iN_sub, iN_lt, iN_eq, iN_n, iN_m1, iN_pred, vp_iN, K0_le, nr_b0, nr_b1, m1_lt, lt_m1, iN_ne_m1, m1_ne_iN, not_lt_z, true_and, and_true, and_self, or_true, true_or, or_false, false_or, if_true, if_false, ↓reduceIte, eq_self, up_at, up_a, up_k, cp_c, cp_b, Nat.zero_add, Nat.add_zero, Nat.sub_zero, Nat.le_refl, Nat.add_sub_cancel, fu_at, fu_ne, iN_nz, n10_f, n01_f, ofN, qq_at_100, k110b, Nat.lt_irrefl, Nat.not_lt_zero, ne_eq, not_false_eq_true, not_true_eq_false, k0, r8, g9, h0, h1, h2, s_322_18_98, b_322_77, t1, b_322_81]
    · rw [h0, c_323, b_323_0, s_323_1_98, b_323_14]
  · have hfo : fo 6 S (aN a 0) (aN a 1) (aN a 2) (aN a 3) = ft_pay S (aN a 0) := by unfold fo; simp only [Nat.reduceEqDiff, if_false, if_true]
    have hoo : oo 6 S (aN a 0) (aN a 1) (aN a 2) (aN a 3) = (o_pay S (aN a 0)).2 := by unfold oo; simp only [Nat.reduceEqDiff, if_false, if_true]
    obtain ⟨J', t1, t2⟩ := m_pay (d := d + 3) (I := J) hL hR hw (aN a 0)
    rw [hfo, hoo]
    refine ⟨[101, 115, 117], 25, mV (ft_pay S (aN a 0)) (o_pay S (aN a 0)).1, J', ?_, t2, by decide, fun e σ => ?_, in_pay⟩
    · rw [c_322, b_322_0]
      simp (disch := omega) only [rd_I_mk, rd_R_mk, rd_L_mk, rd_D_mk, kd_mk, wr_I_mk, cp_mk, gd_true, bd_ret, bd_thr, vl_none, vl_some, iN_add, iN_mul, iN_sub, iN_lt, iN_eq, iN_n, iN_m1, iN_pred, vp_iN, K0_le, nr_b0, nr_b1, m1_lt, lt_m1, iN_ne_m1, m1_ne_iN, not_lt_z, true_and, and_true, and_self, or_true, true_or, or_false, false_or, if_true, if_false, ↓reduceIte, eq_self, up_at, up_a, up_k, cp_c, cp_b, Nat.zero_add, Nat.add_zero, Nat.sub_zero, Nat.le_refl, Nat.add_sub_cancel, fu_at, fu_ne, iN_nz, n10_f, n01_f, ofN, qq_at_100, k110b, Nat.lt_irrefl, Nat.not_lt_zero, ne_eq, not_false_eq_true, not_true_eq_false, k0, r8, g9, h0, h1, s_322_18_121, b_322_22, t1, b_322_25]
    · rw [h0, c_323, b_323_0, s_323_1_121, b_323_4]
  · have hfo : fo 7 S (aN a 0) (aN a 1) (aN a 2) (aN a 3) = ft_hea S (aN a 0) := by unfold fo; simp only [Nat.reduceEqDiff, if_false, if_true]
    have hoo : oo 7 S (aN a 0) (aN a 1) (aN a 2) (aN a 3) = (o_hea S (aN a 0)).2 := by unfold oo; simp only [Nat.reduceEqDiff, if_false, if_true]
    obtain ⟨J', t1, t2⟩ := m_hea (d := d + 0) (I := J) hL hR hw (aN a 0)
    rw [hfo, hoo]
    refine ⟨[101, 115], 27, mV (ft_hea S (aN a 0)) (o_hea S (aN a 0)).1, J', ?_, t2, by decide, fun e σ => ?_, in_hea⟩
    · rw [c_322, b_322_0]
      simp (disch := omega) only [rd_I_mk, rd_R_mk, rd_L_mk, rd_D_mk, kd_mk, wr_I_mk, cp_mk, gd_true, bd_ret, bd_thr, vl_none, vl_some, iN_add, iN_mul, iN_sub, iN_lt, iN_eq, iN_n, iN_m1, iN_pred, vp_iN, K0_le, nr_b0, nr_b1, m1_lt, lt_m1, iN_ne_m1, m1_ne_iN, not_lt_z, true_and, and_true, and_self, or_true, true_or, or_false, false_or, if_true, if_false, ↓reduceIte, eq_self, up_at, up_a, up_k, cp_c, cp_b, Nat.zero_add, Nat.add_zero, Nat.sub_zero, Nat.le_refl, Nat.add_sub_cancel, fu_at, fu_ne, iN_nz, n10_f, n01_f, ofN, qq_at_100, k110b, Nat.lt_irrefl, Nat.not_lt_zero, ne_eq, not_false_eq_true, not_true_eq_false, k0, r8, g9, h0, h1, s_322_18_101, b_322_31, t1, b_322_34]
    · rw [h0, c_323, b_323_0, s_323_1_101, b_323_6]
  · have hfo : fo 8 S (aN a 0) (aN a 1) (aN a 2) (aN a 3) = ft_nig (n1 (aN a 0)) := by unfold fo; simp only [Nat.reduceEqDiff, if_false, if_true]
    have hoo : oo 8 S (aN a 0) (aN a 1) (aN a 2) (aN a 3) = (o_nig S (n1 (aN a 0))).2 := by unfold oo; simp only [Nat.reduceEqDiff, if_false, if_true]
    obtain ⟨J', t1, t2⟩ := m_nig (d := d + 1) (I := J) hL hR hw hB (n1 (aN a 0))
    rw [hfo, hoo]
    refine ⟨[97], 31, mV (ft_nig (n1 (aN a 0))) (o_nig S (n1 (aN a 0))).1, J', ?_, t2, by decide, fun e σ => ?_, in_nig⟩
    · rw [c_322, b_322_0]
      simp (disch := omega) only [rd_I_mk, rd_R_mk, rd_L_mk, rd_D_mk, kd_mk, wr_I_mk, cp_mk, gd_true, bd_ret, bd_thr, vl_none, vl_some, iN_add, iN_mul, iN_sub, iN_lt, iN_eq, iN_n, iN_m1, iN_pred, vp_iN, K0_le, nr_b0, nr_b1, m1_lt, lt_m1, iN_ne_m1, m1_ne_iN, not_lt_z, true_and, and_true, and_self, or_true, true_or, or_false, false_or, if_true, if_false, ↓reduceIte, eq_self, up_at, up_a, up_k, cp_c, cp_b, Nat.zero_add, Nat.add_zero, Nat.sub_zero, Nat.le_refl, Nat.add_sub_cancel, fu_at, fu_ne, iN_nz, n10_f, n01_f, ofN, qq_at_100, k110b, Nat.lt_irrefl, Nat.not_lt_zero, ne_eq, not_false_eq_true, not_true_eq_false, k0, r8, g9, h0, h1, s_322_18_110, b_322_63, t1, b_322_66]
    · rw [h0, c_323, b_323_0, s_323_1_110, b_323_10]
theorem w_oo (hL : L_N τ m) (hR : R_F (J (m + 1)) S) (hw : wS B S) (hB : B + 60 ≤ 900000) {f : Nat → Int32} (hr : rowR f b k a) (hf : fo k S (aN a 0) (aN a 1) (aN a 2) (aN a 3) = 45) : wS (B + 60) (oo k S (aN a 0) (aN a 1) (aN a 2) (aN a 3)) := by
  rcases hr with ⟨rfl, h0⟩ | ⟨rfl, h0, h1, h2⟩ | ⟨rfl, h0, h1, h2⟩ | ⟨rfl, h0, h1, h2⟩ | ⟨rfl, h0, h1, h2, h3, h4⟩ | ⟨rfl, h0, h1, h2, h3, h4, h5⟩ | ⟨rfl, h0, h1, h2⟩ | ⟨rfl, h0, h1⟩ | ⟨rfl, h0, h1⟩ | ⟨rfl, h0, h1⟩
  · have hfo : fo 0 S (aN a 0) (aN a 1) (aN a 2) (aN a 3) = ft_ped S := by unfold fo; simp only [Nat.reduceEqDiff, if_false, if_true]
    have hoo : oo 0 S (aN a 0) (aN a 1) (aN a 2) (aN a 3) = (o_ped S).2 := by unfold oo; simp only [Nat.reduceEqDiff, if_false, if_true]
    rw [hfo] at hf
    rw [hoo]
    exact w_ped hw hB hf
  · have hfo : fo 1 S (aN a 0) (aN a 1) (aN a 2) (aN a 3) = ft_arr S (aN a 0) (aN a 1) := by unfold fo; simp only [Nat.reduceEqDiff, if_false, if_true]
    have hoo : oo 1 S (aN a 0) (aN a 1) (aN a 2) (aN a 3) = (o_arr S (aN a 0) (aN a 1)).2 := by unfold oo; simp only [Nat.reduceEqDiff, if_false, if_true]
    rw [hfo] at hf
    rw [hoo]
    exact w_arr hw hB hf
  · have hfo : fo 2 S (aN a 0) (aN a 1) (aN a 2) (aN a 3) = ft_sta S (aN a 0) (aN a 1) := by unfold fo; simp only [Nat.reduceEqDiff, if_false, if_true]
    have hoo : oo 2 S (aN a 0) (aN a 1) (aN a 2) (aN a 3) = (o_sta S (aN a 0) (aN a 1)).2 := by unfold oo; simp only [Nat.reduceEqDiff, if_false, if_true]
    rw [hfo] at hf
    rw [hoo]
    exact w_sta hw hB hf
  · have hfo : fo 3 S (aN a 0) (aN a 1) (aN a 2) (aN a 3) = ft_hom S (aN a 0) (aN a 1) := by unfold fo; simp only [Nat.reduceEqDiff, if_false, if_true]
    have hoo : oo 3 S (aN a 0) (aN a 1) (aN a 2) (aN a 3) = (o_hom S (aN a 0) (aN a 1)).2 := by unfold oo; simp only [Nat.reduceEqDiff, if_false, if_true]
    rw [hfo] at hf
    rw [hoo]
    exact w_hom hw hB hf
  · have hfo : fo 4 S (aN a 0) (aN a 1) (aN a 2) (aN a 3) = ft_wri S (aN a 0) (aN a 1) (aN a 2) := by unfold fo; simp only [Nat.reduceEqDiff, if_false, if_true, if_pos h4]
    have hoo : oo 4 S (aN a 0) (aN a 1) (aN a 2) (aN a 3) = (o_wri S (aN a 0) (aN a 1) (aN a 2)).2 := by unfold oo; simp only [Nat.reduceEqDiff, if_false, if_true, if_pos h4]
    rw [hfo] at hf
    rw [hoo]
    exact w_wri hw hB hf
  · have hfo : fo 4 S (aN a 0) (aN a 1) (aN a 2) (aN a 3) = ft_fol S (aN a 0) (aN a 1) (aN a 2) (aN a 3) := by unfold fo; simp only [Nat.reduceEqDiff, if_false, if_true, if_neg h5]
    have hoo : oo 4 S (aN a 0) (aN a 1) (aN a 2) (aN a 3) = (o_fol S (aN a 0) (aN a 1) (aN a 2) (aN a 3)).2 := by unfold oo; simp only [Nat.reduceEqDiff, if_false, if_true, if_neg h5]
    rw [hfo] at hf
    rw [hoo]
    exact w_fol hw hB hf
  · have hfo : fo 5 S (aN a 0) (aN a 1) (aN a 2) (aN a 3) = ft_blk S (aN a 0) (aN a 1) := by unfold fo; simp only [Nat.reduceEqDiff, if_false, if_true]
    have hoo : oo 5 S (aN a 0) (aN a 1) (aN a 2) (aN a 3) = (o_blk S (aN a 0) (aN a 1)).2 := by unfold oo; simp only [Nat.reduceEqDiff, if_false, if_true]
    rw [hfo] at hf
    rw [hoo]
    exact w_blk hw hB hf
  · have hfo : fo 6 S (aN a 0) (aN a 1) (aN a 2) (aN a 3) = ft_pay S (aN a 0) := by unfold fo; simp only [Nat.reduceEqDiff, if_false, if_true]
    have hoo : oo 6 S (aN a 0) (aN a 1) (aN a 2) (aN a 3) = (o_pay S (aN a 0)).2 := by unfold oo; simp only [Nat.reduceEqDiff, if_false, if_true]
    rw [hfo] at hf
    rw [hoo]
    exact w_pay hw hB hf
  · have hfo : fo 7 S (aN a 0) (aN a 1) (aN a 2) (aN a 3) = ft_hea S (aN a 0) := by unfold fo; simp only [Nat.reduceEqDiff, if_false, if_true]
    have hoo : oo 7 S (aN a 0) (aN a 1) (aN a 2) (aN a 3) = (o_hea S (aN a 0)).2 := by unfold oo; simp only [Nat.reduceEqDiff, if_false, if_true]
    rw [hfo] at hf
    rw [hoo]
    exact w_hea hL hR hw hB
  · have hfo : fo 8 S (aN a 0) (aN a 1) (aN a 2) (aN a 3) = ft_nig (n1 (aN a 0)) := by unfold fo; simp only [Nat.reduceEqDiff, if_false, if_true]
    have hoo : oo 8 S (aN a 0) (aN a 1) (aN a 2) (aN a 3) = (o_nig S (n1 (aN a 0))).2 := by unfold oo; simp only [Nat.reduceEqDiff, if_false, if_true]
    rw [hfo] at hf
    rw [hoo]
    exact w_nig hL hR hw hB hf
end MDO
