/-! THE MODEL: what went wrong, undo, save, restore -/
section MB3
variable {d : Nat} {I : qq_I} {τ : qq_R} {m B : Nat} {C : sC}
theorem n_errorPosition (h : R_N I τ m B C) : NQ d 325 [.ref m] I τ m B (qv (q_opt (g_E C))) (qc [3] (q_opt (g_E C))) C := by
  obtain ⟨m70, k0, r0, r1, r2, r3, r4, r5, r6, r7, r8, g1, g2, g3, g4, g5, g6, g7, g8, -⟩ := h.1
  obtain ⟨a1, a2, a3, a4, a5, a6, a7, a8, a9, a10, a11, a12, a13, a14, a15, a16, a17, a18, a19, a20⟩ := h.2.2
  unfold q_opt
  by_cases z : g_E C = 0
  · rw [z, caC_0] at a7
    rw [if_pos z]
    refine ⟨up_2 I m 7 (iN 1), ?_, PN_7 h⟩
    rw [c_325, b_325_0]
    simp (disch := omega) only [rd_I_mk, rd_R_mk, rd_L_mk, rd_D_mk, kd_mk, wr_I_mk, cp_mk, gd_true, bd_ret, bd_thr, vl_none, vl_some, iN_add, iN_mul, iN_sub, iN_lt, iN_eq, iN_n, iN_m1, iN_pred, vp_iN, K0_le, nr_b0, nr_b1, m1_lt, lt_m1, iN_ne_m1, m1_ne_iN, not_lt_z, true_and, and_true, and_self, or_true, true_or, or_false, false_or, if_true, if_false, ↓reduceIte, eq_self, up_at, up_a, up_k, cp_c, cp_b, Nat.zero_add, Nat.add_zero, Nat.sub_zero, Nat.le_refl, Nat.add_sub_cancel, fu_at, fu_ne, iN_nz, n10_f, n01_f, ofN, qq_at_100, k110b, Nat.lt_irrefl, Nat.not_lt_zero, ne_eq, not_false_eq_true, not_true_eq_false, k0, a7, b_325_7, thT k0 m70, b_325_9, b_325_14]
    rfl
  · obtain ⟨k, hk⟩ : ∃ k, g_E C = k + 1 := ⟨g_E C - 1, by omega⟩
    rw [hk, caC_s] at a7
    rw [if_neg z, hk, Nat.add_sub_cancel]
    have e : up_2 I m 7 (iN 0) m 8 = iN k := by rw [up_k (by omega)]; exact a7
    refine ⟨up_2 I m 7 (iN 0), ?_, PN_7 h⟩
    rw [c_325, b_325_0]
    simp (disch := omega) only [rd_I_mk, rd_R_mk, rd_L_mk, rd_D_mk, kd_mk, wr_I_mk, cp_mk, gd_true, bd_ret, bd_thr, vl_none, vl_some, iN_add, iN_mul, iN_sub, iN_lt, iN_eq, iN_n, iN_m1, iN_pred, vp_iN, K0_le, nr_b0, nr_b1, m1_lt, lt_m1, iN_ne_m1, m1_ne_iN, not_lt_z, true_and, and_true, and_self, or_true, true_or, or_false, false_or, if_true, if_false, ↓reduceIte, eq_self, up_at, up_a, up_k, cp_c, cp_b, Nat.zero_add, Nat.add_zero, Nat.sub_zero, Nat.le_refl, Nat.add_sub_cancel, fu_at, fu_ne, iN_nz, n10_f, n01_f, ofN, qq_at_100, k110b, Nat.lt_irrefl, Nat.not_lt_zero, ne_eq, not_false_eq_true, not_true_eq_false, k0, a7, b_325_7, thF k0 m70, b_325_9, e, b_325_14]
    rfl
theorem n_failedCommand (h : R_N I τ m B C) : NQ d 326 [.ref m] I τ m B (qv (q_opt (g_F C))) (qc [3] (q_opt (g_F C))) C := by
  obtain ⟨m70, k0, r0, r1, r2, r3, r4, r5, r6, r7, r8, g1, g2, g3, g4, g5, g6, g7, g8, -⟩ := h.1
  obtain ⟨a1, a2, a3, a4, a5, a6, a7, a8, a9, a10, a11, a12, a13, a14, a15, a16, a17, a18, a19, a20⟩ := h.2.2
  unfold q_opt
  by_cases z : g_F C = 0
  · rw [z, caC_0] at a8
    rw [if_pos z]
    refine ⟨up_2 I m 7 (iN 1), ?_, PN_7 h⟩
    rw [c_326, b_326_0]
    simp (disch := omega) only [rd_I_mk, rd_R_mk, rd_L_mk, rd_D_mk, kd_mk, wr_I_mk, cp_mk, gd_true, bd_ret, bd_thr, vl_none, vl_some, iN_add, iN_mul, iN_sub, iN_lt, iN_eq, iN_n, iN_m1, iN_pred, vp_iN, K0_le, nr_b0, nr_b1, m1_lt, lt_m1, iN_ne_m1, m1_ne_iN, not_lt_z, true_and, and_true, and_self, or_true, true_or, or_false, false_or, if_true, if_false, ↓reduceIte, eq_self, up_at, up_a, up_k, cp_c, cp_b, Nat.zero_add, Nat.add_zero, Nat.sub_zero, Nat.le_refl, Nat.add_sub_cancel, fu_at, fu_ne, iN_nz, n10_f, n01_f, ofN, qq_at_100, k110b, Nat.lt_irrefl, Nat.not_lt_zero, ne_eq, not_false_eq_true, not_true_eq_false, k0, a8, b_326_7, thT k0 m70, b_326_9, b_326_14]
    rfl
  · obtain ⟨k, hk⟩ : ∃ k, g_F C = k + 1 := ⟨g_F C - 1, by omega⟩
    rw [hk, caC_s] at a8
    rw [if_neg z, hk, Nat.add_sub_cancel]
    have e : up_2 I m 7 (iN 0) m 9 = iN k := by rw [up_k (by omega)]; exact a8
    refine ⟨up_2 I m 7 (iN 0), ?_, PN_7 h⟩
    rw [c_326, b_326_0]
    simp (disch := omega) only [rd_I_mk, rd_R_mk, rd_L_mk, rd_D_mk, kd_mk, wr_I_mk, cp_mk, gd_true, bd_ret, bd_thr, vl_none, vl_some, iN_add, iN_mul, iN_sub, iN_lt, iN_eq, iN_n, iN_m1, iN_pred, vp_iN, K0_le, nr_b0, nr_b1, m1_lt, lt_m1, iN_ne_m1, m1_ne_iN, not_lt_z, true_and, and_true, and_self, or_true, true_or, or_false, false_or, if_true, if_false, ↓reduceIte, eq_self, up_at, up_a, up_k, cp_c, cp_b, Nat.zero_add, Nat.add_zero, Nat.sub_zero, Nat.le_refl, Nat.add_sub_cancel, fu_at, fu_ne, iN_nz, n10_f, n01_f, ofN, qq_at_100, k110b, Nat.lt_irrefl, Nat.not_lt_zero, ne_eq, not_false_eq_true, not_true_eq_false, k0, a8, b_326_7, thF k0 m70, b_326_9, e, b_326_14]
    rfl
theorem n_failureKind (h : R_N I τ m B C) : NQ d 327 [.ref m] I τ m B (qv (q_kind C)) (qc [3] (q_kind C)) C := by
  obtain ⟨m70, k0, r0, r1, r2, r3, r4, r5, r6, r7, r8, g1, g2, g3, g4, g5, g6, g7, g8, -⟩ := h.1
  obtain ⟨a1, a2, a3, a4, a5, a6, a7, a8, a9, a10, a11, a12, a13, a14, a15, a16, a17, a18, a19, a20⟩ := h.2.2
  unfold q_kind
  by_cases z : g_F C = 0
  · rw [z, caC_0] at a8
    rw [if_pos z]
    refine ⟨up_2 I m 7 (iN 1), ?_, PN_7 h⟩
    rw [c_327, b_327_0]
    simp (disch := omega) only [rd_I_mk, rd_R_mk, rd_L_mk, rd_D_mk, kd_mk, wr_I_mk, cp_mk, gd_true, bd_ret, bd_thr, vl_none, vl_some, iN_add, iN_mul, iN_sub, iN_lt, iN_eq, iN_n, iN_m1, iN_pred, vp_iN, K0_le, nr_b0, nr_b1, m1_lt, lt_m1, iN_ne_m1, m1_ne_iN, not_lt_z, true_and, and_true, and_self, or_true, true_or, or_false, false_or, if_true, if_false, ↓reduceIte, eq_self, up_at, up_a, up_k, cp_c, cp_b, Nat.zero_add, Nat.add_zero, Nat.sub_zero, Nat.le_refl, Nat.add_sub_cancel, fu_at, fu_ne, iN_nz, n10_f, n01_f, ofN, qq_at_100, k110b, Nat.lt_irrefl, Nat.not_lt_zero, ne_eq, not_false_eq_true, not_true_eq_false, k0, a8, b_327_7, thT k0 m70, b_327_9, b_327_15, nr_ch]
    rfl
  · have h10 := a9 z
    obtain ⟨k, hk⟩ : ∃ k, g_F C = k + 1 := ⟨g_F C - 1, by omega⟩
    rw [hk, caC_s] at a8
    rw [if_neg z]
    have e : up_2 I m 7 (iN 0) m 10 = iN (g_G C) := by rw [up_k (by omega)]; exact h10
    refine ⟨up_2 I m 7 (iN 0), ?_, PN_7 h⟩
    rw [c_327, b_327_0]
    simp (disch := omega) only [rd_I_mk, rd_R_mk, rd_L_mk, rd_D_mk, kd_mk, wr_I_mk, cp_mk, gd_true, bd_ret, bd_thr, vl_none, vl_some, iN_add, iN_mul, iN_sub, iN_lt, iN_eq, iN_n, iN_m1, iN_pred, vp_iN, K0_le, nr_b0, nr_b1, m1_lt, lt_m1, iN_ne_m1, m1_ne_iN, not_lt_z, true_and, and_true, and_self, or_true, true_or, or_false, false_or, if_true, if_false, ↓reduceIte, eq_self, up_at, up_a, up_k, cp_c, cp_b, Nat.zero_add, Nat.add_zero, Nat.sub_zero, Nat.le_refl, Nat.add_sub_cancel, fu_at, fu_ne, iN_nz, n10_f, n01_f, ofN, qq_at_100, k110b, Nat.lt_irrefl, Nat.not_lt_zero, ne_eq, not_false_eq_true, not_true_eq_false, k0, a8, b_327_7, thF k0 m70, b_327_9, e, mo_b a10, b_327_15, nr_ch]
    rfl
theorem n_undo (h : R_N I τ m B C) : NQ d 328 [.ref m] I τ m B (qv (q_undo C)) (qc [3] (q_undo C)) (t_undo C) := by
  obtain ⟨m70, k0, r0, r1, r2, r3, r4, r5, r6, r7, r8, g1, g2, g3, g4, g5, g6, g7, g8, -⟩ := h.1
  have h0 := h
  obtain ⟨hL, hR, hY⟩ := h
  obtain ⟨a1, a2, a3, a4, a5, a6, a7, a8, a9, a10, a11, a12, a13, a14, a15, a16, a17, a18, a19, a20⟩ := hY
  unfold q_undo t_undo
  by_cases z : (g_H C).length = 0
  · have hn : (g_H C).getLast? = none := by rw [List.length_eq_zero_iff.mp z]; rfl
    rw [hn, if_pos z]
    rw [z] at a2
    refine ⟨up_2 I m 7 (iN 1), ?_, PN_7 h0⟩
    rw [c_328, b_328_0]
    simp (disch := omega) only [rd_I_mk, rd_R_mk, rd_L_mk, rd_D_mk, kd_mk, wr_I_mk, cp_mk, gd_true, bd_ret, bd_thr, vl_none, vl_some, iN_add, iN_mul, iN_sub, iN_lt, iN_eq, iN_n, iN_m1, iN_pred, vp_iN, K0_le, nr_b0, nr_b1, m1_lt, lt_m1, iN_ne_m1, m1_ne_iN, not_lt_z, true_and, and_true, and_self, or_true, true_or, or_false, false_or, if_true, if_false, ↓reduceIte, eq_self, up_at, up_a, up_k, cp_c, cp_b, Nat.zero_add, Nat.add_zero, Nat.sub_zero, Nat.le_refl, Nat.add_sub_cancel, fu_at, fu_ne, iN_nz, n10_f, n01_f, ofN, qq_at_100, k110b, Nat.lt_irrefl, Nat.not_lt_zero, ne_eq, not_false_eq_true, not_true_eq_false, k0, a2, b_328_7, thT k0 m70, b_328_9]
    rfl
  · have hlt : (g_H C).length - 1 < (g_H C).length := by omega
    have hs : (g_H C).getLast? = some (g_H C)[(g_H C).length - 1] := by rw [List.getLast?_eq_getElem?, List.getElem?_eq_getElem hlt]
    rw [hs, if_neg z]
    have e6 : up_2 I m 7 (iN 0) m 6 = iN (g_H C).length := by rw [up_k (by omega)]; exact a2
    have q := c_copies (d := d + 39) (I := up_2 (up_2 I m 7 (iN 0)) m 6 (iN ((g_H C).length - 1))) (sp := 106 * ((g_H C).length - 1)) (dp := 0) g5 g1 (by omega) (by omega) (by omega) (by omega) (by omega) (Or.inl (by omega))
    have ef : cp_2 (up_2 (up_2 I m 7 (iN 0)) m 6 (iN ((g_H C).length - 1))) (m + 5) (106 * ((g_H C).length - 1)) (m + 1) 0 106 m 6 = iN ((g_H C).length - 1) := by rw [cp_c (by omega), up_at]
    have hm : ∀ k, k ≠ 6 → k ≠ 7 → cp_2 (up_2 (up_2 I m 7 (iN 0)) m 6 (iN ((g_H C).length - 1))) (m + 5) (106 * ((g_H C).length - 1)) (m + 1) 0 106 m k = I m k := fun k h1 h2 => by rw [cp_c (by omega), up_k h1, up_k h2]
    have ho : ∀ a, a ≠ m → a ≠ m + 1 → cp_2 (up_2 (up_2 I m 7 (iN 0)) m 6 (iN ((g_H C).length - 1))) (m + 5) (106 * ((g_H C).length - 1)) (m + 1) 0 106 a = I a := fun a h1 h2 => by rw [cp_c h2, up_c h1, up_c h1]
    obtain ⟨b1, b2⟩ := a4 _ hlt
    refine ⟨_, ?_, ⟨hL, ?_, R_Y_fin (C := C) (S' := (g_H C)[(g_H C).length - 1]) (H' := (g_H C).dropLast) ⟨a1, a2, a3, a4, a5, a6, a7, a8, a9, a10, a11, a12, a13, a14, a15, a16, a17, a18, a19, a20⟩ (Nat.le_refl _) a1.1 hm (ho _ (by omega) (by omega)) (ho _ (by omega) (by omega)) (ho _ (by omega) (by omega)) b2 ?_ ?_ (fun i hi => ?_)⟩, ?_, fun a ha => ho a (by omega) (by omega)⟩
    · rw [c_328, b_328_0]
      simp (disch := omega) only [rd_I_mk, rd_R_mk, rd_L_mk, rd_D_mk, kd_mk, wr_I_mk, cp_mk, gd_true, bd_ret, bd_thr, vl_none, vl_some, iN_add, iN_mul, iN_sub, iN_lt, iN_eq, iN_n, iN_m1, iN_pred, vp_iN, K0_le, nr_b0, nr_b1, m1_lt, lt_m1, iN_ne_m1, m1_ne_iN, not_lt_z, true_and, and_true, and_self, or_true, true_or, or_false, false_or, if_true, if_false, ↓reduceIte, eq_self, up_at, up_a, up_k, cp_c, cp_b, Nat.zero_add, Nat.add_zero, Nat.sub_zero, Nat.le_refl, Nat.add_sub_cancel, fu_at, fu_ne, iN_nz, n10_f, n01_f, ofN, qq_at_100, k110b, Nat.lt_irrefl, Nat.not_lt_zero, ne_eq, not_false_eq_true, not_true_eq_false, k0, a2, z, b_328_7, thF k0 m70, b_328_9, e6, b_328_18, r0, r4, q, b_328_28, ef]
      rfl
    · refine R_F_same b1 b2 (fun k hk => ?_)
      rw [cp_b (by omega), up_c (by omega), up_c (by omega)]
      congr 1
    · rw [ef, List.length_dropLast]
    · rw [List.length_dropLast]; omega
    · rw [List.length_dropLast] at hi
      rw [List.getElem_dropLast, ho _ (by omega) (by omega)]
      exact a4 i (by omega)
    · rw [cp_c (by omega), up_k (by omega), up_at]; rfl
theorem n_save (h : R_N I τ m B C) : NQ d 329 [.ref m] I τ m B (iN (p_ns (s_P (g_S C)))) 0 (t_save C) := by
  obtain ⟨m70, k0, r0, r1, r2, r3, r4, r5, r6, r7, r8, g1, g2, g3, g4, g5, g6, g7, g8, -⟩ := h.1
  obtain ⟨hL, hR, hY⟩ := h
  obtain ⟨a1, a2, a3, a4, a5, a6, a7, a8, a9, a10, a11, a12, a13, a14, a15, a16, a17, a18, a19, a20⟩ := hY
  have q := c_copies (d := d + 39) (I := up_2 I m 7 (iN 0)) (sp := 0) (dp := 0) g1 g4 (by omega) (by omega) (by omega) (by omega) (by omega) (Or.inl (by omega))
  have hm : ∀ k, k ≠ 12 → k ≠ 7 → up_2 (cp_2 (up_2 I m 7 (iN 0)) (m + 1) 0 (m + 4) 0 106) m 12 (iN 1) m k = I m k := fun k h1 h2 => by rw [up_k h1, cp_c (by omega), up_k h2]
  have ho : ∀ a, a ≠ m → a ≠ m + 4 → up_2 (cp_2 (up_2 I m 7 (iN 0)) (m + 1) 0 (m + 4) 0 106) m 12 (iN 1) a = I a := fun a h1 h2 => by rw [up_c h1, cp_c h2, up_c h1]
  have e9 : up_2 (cp_2 (up_2 I m 7 (iN 0)) (m + 1) 0 (m + 4) 0 106) m 12 (iN 1) (m + 1) 9 = iN (p_ns (s_P (g_S C))) := by rw [ho _ (by omega) (by omega)]; exact hR.2.2.2.2.2.2.2.2.2.1
  refine ⟨up_2 (cp_2 (up_2 I m 7 (iN 0)) (m + 1) 0 (m + 4) 0 106) m 12 (iN 1), ?_, ⟨hL, by rw [ho _ (by omega) (by omega)]; exact hR, a1, by rw [hm 6 (by omega) (by omega)]; exact a2, a3, by rw [ho _ (by omega) (by omega)]; exact a4, up_at, fun T hT => ?_, by rw [hm 8 (by omega) (by omega)]; exact a7, by rw [hm 9 (by omega) (by omega)]; exact a8, fun z => by rw [hm 10 (by omega) (by omega)]; exact a9 z, a10, a11, a12, by rw [hm 14 (by omega) (by omega)]; exact a13, a14, by rw [ho _ (by omega) (by omega)]; exact a15, a16, by rw [hm 17 (by omega) (by omega)]; exact a17, a18, by rw [ho _ (by omega) (by omega)]; exact a19, a20⟩, ?_, fun a ha => ho a (by omega) (by omega)⟩
  · have nkb : nk .boolean (iN 1) = True := by first | exact nk_b1 | exact eq_true (by decide)
    rw [c_329, b_329_0]
    simp (disch := omega) only [rd_I_mk, rd_R_mk, rd_L_mk, rd_D_mk, kd_mk, wr_I_mk, cp_mk, gd_true, bd_ret, bd_thr, vl_none, vl_some, iN_add, iN_mul, iN_sub, iN_lt, iN_eq, iN_n, iN_m1, iN_pred, vp_iN, K0_le, nr_b0, nr_b1, m1_lt, lt_m1, iN_ne_m1, m1_ne_iN, not_lt_z, true_and, and_true, and_self, or_true, true_or, or_false, false_or, if_true, if_false, ↓reduceIte, eq_self, up_at, up_a, up_k, cp_c, cp_b, Nat.zero_add, Nat.add_zero, Nat.sub_zero, Nat.le_refl, Nat.add_sub_cancel, fu_at, fu_ne, iN_nz, n10_f, n01_f, ofN, qq_at_100, k110b, Nat.lt_irrefl, Nat.not_lt_zero, ne_eq, not_false_eq_true, not_true_eq_false, k0, b_329_3, r0, r3, q, b_329_10, nkb, b_329_13, g1, e9]
  · have hT : some (g_S C) = some T := hT
    cases hT
    refine ⟨R_F_same hR a1 (fun k hk => ?_), a1⟩
    rw [up_c (by omega), cp_b (by omega), up_c (by omega)]
    congr 1
    omega
  · rw [up_k (by omega), cp_c (by omega), up_at]
theorem n_restore (h : R_N I τ m B C) : NQ d 330 [.ref m] I τ m B (qv (q_restore C)) (qc [2] (q_restore C)) (t_restore C) := by
  obtain ⟨m70, k0, r0, r1, r2, r3, r4, r5, r6, r7, r8, g1, g2, g3, g4, g5, g6, g7, g8, -⟩ := h.1
  have h0 := h
  obtain ⟨hL, hR, hY⟩ := h
  obtain ⟨a1, a2, a3, a4, a5, a6, a7, a8, a9, a10, a11, a12, a13, a14, a15, a16, a17, a18, a19, a20⟩ := hY
  unfold q_restore t_restore
  cases hz : g_Z C with
  | none =>
    rw [hz] at a5
    have a5 : I m 12 = iN 0 := a5
    refine ⟨up_2 I m 7 (iN 1), ?_, PN_7 h0⟩
    rw [c_330, b_330_0]
    simp (disch := omega) only [rd_I_mk, rd_R_mk, rd_L_mk, rd_D_mk, kd_mk, wr_I_mk, cp_mk, gd_true, bd_ret, bd_thr, vl_none, vl_some, iN_add, iN_mul, iN_sub, iN_lt, iN_eq, iN_n, iN_m1, iN_pred, vp_iN, K0_le, nr_b0, nr_b1, m1_lt, lt_m1, iN_ne_m1, m1_ne_iN, not_lt_z, true_and, and_true, and_self, or_true, true_or, or_false, false_or, if_true, if_false, ↓reduceIte, eq_self, up_at, up_a, up_k, cp_c, cp_b, Nat.zero_add, Nat.add_zero, Nat.sub_zero, Nat.le_refl, Nat.add_sub_cancel, fu_at, fu_ne, iN_nz, n10_f, n01_f, ofN, qq_at_100, k110b, Nat.lt_irrefl, Nat.not_lt_zero, ne_eq, not_false_eq_true, not_true_eq_false, k0, a5, b_330_7, thT k0 m70, b_330_9]
    rfl
  | some T =>
    rw [hz] at a5
    have a5 : I m 12 = iN 1 := a5
    obtain ⟨b1, b2⟩ := a6 T hz
    have q := c_copies (d := d + 39) (I := up_2 I m 7 (iN 0)) (sp := 0) (dp := 0) g4 g1 (by omega) (by omega) (by omega) (by omega) (by omega) (Or.inl (by omega))
    have hm : ∀ k, k ≠ 6 → k ≠ 7 → up_2 (cp_2 (up_2 I m 7 (iN 0)) (m + 4) 0 (m + 1) 0 106) m 6 (iN 0) m k = I m k := fun k h1 h2 => by rw [up_k h1, cp_c (by omega), up_k h2]
    have ho : ∀ a, a ≠ m → a ≠ m + 1 → up_2 (cp_2 (up_2 I m 7 (iN 0)) (m + 4) 0 (m + 1) 0 106) m 6 (iN 0) a = I a := fun a h1 h2 => by rw [up_c h1, cp_c h2, up_c h1]
    have hF : R_F (up_2 (cp_2 (up_2 I m 7 (iN 0)) (m + 4) 0 (m + 1) 0 106) m 6 (iN 0) (m + 1)) T := by
      refine R_F_same b1 b2 (fun k hk => ?_)
      rw [up_c (by omega), cp_b (by omega), up_c (by omega)]
      congr 1
      omega
    have e9 := hF.2.2.2.2.2.2.2.2.2.1
    refine ⟨up_2 (cp_2 (up_2 I m 7 (iN 0)) (m + 4) 0 (m + 1) 0 106) m 6 (iN 0), ?_, ⟨hL, hF, R_Y_fin (C := C) (S' := T) (H' := []) ⟨a1, a2, a3, a4, by rw [hz]; exact a5, a6, a7, a8, a9, a10, a11, a12, a13, a14, a15, a16, a17, a18, a19, a20⟩ (Nat.le_refl _) a1.1 hm (ho _ (by omega) (by omega)) (ho _ (by omega) (by omega)) (ho _ (by omega) (by omega)) b2 up_at (Nat.zero_le _) (fun i hi => absurd hi (Nat.not_lt_zero _))⟩, ?_, fun a ha => ho a (by omega) (by omega)⟩
    · rw [c_330, b_330_0]
      simp (disch := omega) only [rd_I_mk, rd_R_mk, rd_L_mk, rd_D_mk, kd_mk, wr_I_mk, cp_mk, gd_true, bd_ret, bd_thr, vl_none, vl_some, iN_add, iN_mul, iN_sub, iN_lt, iN_eq, iN_n, iN_m1, iN_pred, vp_iN, K0_le, nr_b0, nr_b1, m1_lt, lt_m1, iN_ne_m1, m1_ne_iN, not_lt_z, true_and, and_true, and_self, or_true, true_or, or_false, false_or, if_true, if_false, ↓reduceIte, eq_self, up_at, up_a, up_k, cp_c, cp_b, Nat.zero_add, Nat.add_zero, Nat.sub_zero, Nat.le_refl, Nat.add_sub_cancel, fu_at, fu_ne, iN_nz, n10_f, n01_f, ofN, qq_at_100, k110b, Nat.lt_irrefl, Nat.not_lt_zero, ne_eq, not_false_eq_true, not_true_eq_false, k0, a5, b_330_7, thF k0 m70, b_330_9, r0, r3, q, b_330_19, b_330_22, g1, e9]
      rfl
    · rw [up_k (by omega), cp_c (by omega), up_at]; rfl
end MB3
