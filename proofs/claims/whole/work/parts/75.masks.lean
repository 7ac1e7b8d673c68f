/-! THE MODEL: what it is asked (one) -/
def qv : qR → Int32
  | .inl v => v
  | .inr _ => iN 0
def qc (l : List Nat) : qR → Nat
  | .inl _ => 0
  | .inr x => l.idxOf x + 1
/-- a call of the model: what it answers, what it threw, what it holds after it -/
def NR (e M : Nat) (args : List Value) (I : qq_I) (τ : qq_R) (m B : Nat) (v : Int32) (n : Nat) (C' : sC) : Prop := ∃ I', CC e M args (I, τ) = some (.inl (some (.int v)), (I', τ)) ∧ PN m I I' τ B n C'
abbrev NQ (d M : Nat) (args : List Value) (I : qq_I) (τ : qq_R) (m B : Nat) (v : Int32) (n : Nat) (C' : sC) : Prop := NR (d + 40) M args I τ m B v n C'
section MQ
variable {d : Nat} {I : qq_I} {τ : qq_R} {m B : Nat} {C : sC}
theorem R_N_gen {I' : qq_I} (h : R_N I τ m B C) (hm : ∀ k, k ≠ 7 → k ≠ 11 → I' m k = I m k) (hs : ∀ k, k < 106 → I' (m + 1) k = I (m + 1) k) (h4 : I' (m + 4) = I (m + 4)) (h5 : I' (m + 5) = I (m + 5)) (h7 : I' (m + 7) = I (m + 7)) (h8 : I' (m + 8) = I (m + 8)) : R_N I' τ m B C := by
  obtain ⟨hL, hR, hY⟩ := h
  obtain ⟨a1, a2, a3, a4, a5, a6, a7, a8, a9, a10, a11, a12, a13, a14, a15, a16, a17, a18, a19, a20⟩ := hY
  exact ⟨hL, R_F_same hR a1 hs, a1, by rw [hm 6 (by omega) (by omega)]; exact a2, a3, by rw [h5]; exact a4, by rw [hm 12 (by omega) (by omega)]; exact a5, by rw [h4]; exact a6, by rw [hm 8 (by omega) (by omega)]; exact a7, by rw [hm 9 (by omega) (by omega)]; exact a8, fun z => by rw [hm 10 (by omega) (by omega)]; exact a9 z, a10, a11, a12, by rw [hm 14 (by omega) (by omega)]; exact a13, a14, by rw [h7]; exact a15, a16, by rw [hm 17 (by omega) (by omega)]; exact a17, a18, by rw [h8]; exact a19, a20⟩
theorem PN_7 (h : R_N I τ m B C) {n : Nat} : PN m I (up_2 I m 7 (iN n)) τ B n C :=
  ⟨R_N_gen h (fun k h1 _ => up_k h1) (fun k _ => by rw [up_c (by omega)]) (up_c (by omega)) (up_c (by omega)) (up_c (by omega)) (up_c (by omega)), up_at, fun a ha => up_c (by omega)⟩
theorem PN_o (h : R_N I τ m B C) {n : Nat} {I' : qq_I} (hm : ∀ k, k ≠ 7 → k ≠ 11 → I' m k = I m k) (hs : ∀ k, k < 106 → I' (m + 1) k = I (m + 1) k) (ho : ∀ a, a ≠ m → a ≠ m + 1 → a ≠ m + 3 → a ≠ m + 6 → I' a = I a) (h7 : I' m 7 = iN n) : PN m I I' τ B n C :=
  ⟨R_N_gen h hm hs (ho _ (by omega) (by omega) (by omega) (by omega)) (ho _ (by omega) (by omega) (by omega) (by omega)) (ho _ (by omega) (by omega) (by omega) (by omega)) (ho _ (by omega) (by omega) (by omega) (by omega)), h7, fun a ha => ho a (by omega) (by omega) (by omega) (by omega)⟩
theorem n_pedestalCount (h : R_N I τ m B C) : NQ d 256 [.ref m] I τ m B (iN (p_np (s_P (g_S C)))) 0 C := by
  have hL := h.1
  have hR := h.2.1
  have hw := h.2.2.1
  have hR7 : ∀ v, R_F (up_2 I m 7 v (m + 1)) (g_S C) := fun v => R_F_7 hR
  obtain ⟨m70, k0, r0, r1, r2, r3, r4, r5, -, -, -, g1, g2, g3, g4, g5, g6, -⟩ := hL
  have w1 := hw.2.1.1
  have w2 := hw.2.1.2.1
  have w3 := hw.2.2.1.1
  have e := (hR7 (iN 0)).2.2.2.2.2.2.2.2.1
  refine ⟨up_2 I m 7 (iN 0), ?_, PN_7 h⟩
  rw [c_256, b_256_0]
  simp (disch := omega) only [rd_I_mk, rd_R_mk, rd_L_mk, rd_D_mk, kd_mk, wr_I_mk, cp_mk, gd_true, bd_ret, bd_thr, vl_none, vl_some, iN_add, iN_mul, iN_sub, iN_lt, iN_eq, iN_n, iN_m1, iN_pred, vp_iN, K0_le, nr_b0, nr_b1, m1_lt, lt_m1, iN_ne_m1, m1_ne_iN, not_lt_z, true_and, and_true, and_self, or_true, true_or, or_false, false_or, if_true, if_false, ↓reduceIte, eq_self, up_at, up_a, up_k, cp_c, cp_b, Nat.zero_add, Nat.add_zero, Nat.sub_zero, Nat.le_refl, Nat.add_sub_cancel, fu_at, fu_ne, iN_nz, n10_f, n01_f, ofN, qq_at_100, k110b, Nat.lt_irrefl, Nat.not_lt_zero, ne_eq, not_false_eq_true, not_true_eq_false, k0, b_256_3, r0, g1, e]
theorem n_statueCount (h : R_N I τ m B C) : NQ d 264 [.ref m] I τ m B (iN (p_ns (s_P (g_S C)))) 0 C := by
  have hL := h.1
  have hR := h.2.1
  have hw := h.2.2.1
  have hR7 : ∀ v, R_F (up_2 I m 7 v (m + 1)) (g_S C) := fun v => R_F_7 hR
  obtain ⟨m70, k0, r0, r1, r2, r3, r4, r5, -, -, -, g1, g2, g3, g4, g5, g6, -⟩ := hL
  have w1 := hw.2.1.1
  have w2 := hw.2.1.2.1
  have w3 := hw.2.2.1.1
  have e := (hR7 (iN 0)).2.2.2.2.2.2.2.2.2.1
  refine ⟨up_2 I m 7 (iN 0), ?_, PN_7 h⟩
  rw [c_264, b_264_0]
  simp (disch := omega) only [rd_I_mk, rd_R_mk, rd_L_mk, rd_D_mk, kd_mk, wr_I_mk, cp_mk, gd_true, bd_ret, bd_thr, vl_none, vl_some, iN_add, iN_mul, iN_sub, iN_lt, iN_eq, iN_n, iN_m1, iN_pred, vp_iN, K0_le, nr_b0, nr_b1, m1_lt, lt_m1, iN_ne_m1, m1_ne_iN, not_lt_z, true_and, and_true, and_self, or_true, true_or, or_false, false_or, if_true, if_false, ↓reduceIte, eq_self, up_at, up_a, up_k, cp_c, cp_b, Nat.zero_add, Nat.add_zero, Nat.sub_zero, Nat.le_refl, Nat.add_sub_cancel, fu_at, fu_ne, iN_nz, n10_f, n01_f, ofN, qq_at_100, k110b, Nat.lt_irrefl, Nat.not_lt_zero, ne_eq, not_false_eq_true, not_true_eq_false, k0, b_264_3, r0, g1, e]
theorem n_writCount (h : R_N I τ m B C) : NQ d 274 [.ref m] I τ m B (iN (un (s_U (g_S C)))) 0 C := by
  have hL := h.1
  have hR := h.2.1
  have hw := h.2.2.1
  have hR7 : ∀ v, R_F (up_2 I m 7 v (m + 1)) (g_S C) := fun v => R_F_7 hR
  obtain ⟨m70, k0, r0, r1, r2, r3, r4, r5, -, -, -, g1, g2, g3, g4, g5, g6, -⟩ := hL
  have w1 := hw.2.1.1
  have w2 := hw.2.1.2.1
  have w3 := hw.2.2.1.1
  have e := (hR7 (iN 0)).2.2.2.2.2.2.2.2.2.2.1
  refine ⟨up_2 I m 7 (iN 0), ?_, PN_7 h⟩
  rw [c_274, b_274_0]
  simp (disch := omega) only [rd_I_mk, rd_R_mk, rd_L_mk, rd_D_mk, kd_mk, wr_I_mk, cp_mk, gd_true, bd_ret, bd_thr, vl_none, vl_some, iN_add, iN_mul, iN_sub, iN_lt, iN_eq, iN_n, iN_m1, iN_pred, vp_iN, K0_le, nr_b0, nr_b1, m1_lt, lt_m1, iN_ne_m1, m1_ne_iN, not_lt_z, true_and, and_true, and_self, or_true, true_or, or_false, false_or, if_true, if_false, ↓reduceIte, eq_self, up_at, up_a, up_k, cp_c, cp_b, Nat.zero_add, Nat.add_zero, Nat.sub_zero, Nat.le_refl, Nat.add_sub_cancel, fu_at, fu_ne, iN_nz, n10_f, n01_f, ofN, qq_at_100, k110b, Nat.lt_irrefl, Nat.not_lt_zero, ne_eq, not_false_eq_true, not_true_eq_false, k0, b_274_3, r0, g1, e]
theorem n_byAccounts (h : R_N I τ m B C) : NQ d 295 [.ref m] I τ m B (m_ad (s_M (g_S C))) 0 C := by
  have hL := h.1
  have hR := h.2.1
  have hw := h.2.2.1
  have hR7 : ∀ v, R_F (up_2 I m 7 v (m + 1)) (g_S C) := fun v => R_F_7 hR
  obtain ⟨m70, k0, r0, r1, r2, r3, r4, r5, -, -, -, g1, g2, g3, g4, g5, g6, -⟩ := hL
  have w1 := hw.2.1.1
  have w2 := hw.2.1.2.1
  have w3 := hw.2.2.1.1
  have e := (hR7 (iN 0)).2.2.2.1
  refine ⟨up_2 I m 7 (iN 0), ?_, PN_7 h⟩
  rw [c_295, b_295_0]
  simp (disch := omega) only [rd_I_mk, rd_R_mk, rd_L_mk, rd_D_mk, kd_mk, wr_I_mk, cp_mk, gd_true, bd_ret, bd_thr, vl_none, vl_some, iN_add, iN_mul, iN_sub, iN_lt, iN_eq, iN_n, iN_m1, iN_pred, vp_iN, K0_le, nr_b0, nr_b1, m1_lt, lt_m1, iN_ne_m1, m1_ne_iN, not_lt_z, true_and, and_true, and_self, or_true, true_or, or_false, false_or, if_true, if_false, ↓reduceIte, eq_self, up_at, up_a, up_k, cp_c, cp_b, Nat.zero_add, Nat.add_zero, Nat.sub_zero, Nat.le_refl, Nat.add_sub_cancel, fu_at, fu_ne, iN_nz, n10_f, n01_f, ofN, qq_at_100, k110b, Nat.lt_irrefl, Nat.not_lt_zero, ne_eq, not_false_eq_true, not_true_eq_false, k0, b_295_3, r0, g1, e]
theorem n_treasury (h : R_N I τ m B C) : NQ d 296 [.ref m] I τ m B (m_tr (s_M (g_S C))) 0 C := by
  have hL := h.1
  have hR := h.2.1
  have hw := h.2.2.1
  have hR7 : ∀ v, R_F (up_2 I m 7 v (m + 1)) (g_S C) := fun v => R_F_7 hR
  obtain ⟨m70, k0, r0, r1, r2, r3, r4, r5, -, -, -, g1, g2, g3, g4, g5, g6, -⟩ := hL
  have w1 := hw.2.1.1
  have w2 := hw.2.1.2.1
  have w3 := hw.2.2.1.1
  have e := (hR7 (iN 0)).2.2.1
  refine ⟨up_2 I m 7 (iN 0), ?_, PN_7 h⟩
  rw [c_296, b_296_0]
  simp (disch := omega) only [rd_I_mk, rd_R_mk, rd_L_mk, rd_D_mk, kd_mk, wr_I_mk, cp_mk, gd_true, bd_ret, bd_thr, vl_none, vl_some, iN_add, iN_mul, iN_sub, iN_lt, iN_eq, iN_n, iN_m1, iN_pred, vp_iN, K0_le, nr_b0, nr_b1, m1_lt, lt_m1, iN_ne_m1, m1_ne_iN, not_lt_z, true_and, and_true, and_self, or_true, true_or, or_false, false_or, if_true, if_false, ↓reduceIte, eq_self, up_at, up_a, up_k, cp_c, cp_b, Nat.zero_add, Nat.add_zero, Nat.sub_zero, Nat.le_refl, Nat.add_sub_cancel, fu_at, fu_ne, iN_nz, n10_f, n01_f, ofN, qq_at_100, k110b, Nat.lt_irrefl, Nat.not_lt_zero, ne_eq, not_false_eq_true, not_true_eq_false, k0, b_296_3, r0, g1, e]
theorem n_night (h : R_N I τ m B C) : NQ d 297 [.ref m] I τ m B (iN (s_ni (g_S C))) 0 C := by
  have hL := h.1
  have hR := h.2.1
  have hw := h.2.2.1
  have hR7 : ∀ v, R_F (up_2 I m 7 v (m + 1)) (g_S C) := fun v => R_F_7 hR
  obtain ⟨m70, k0, r0, r1, r2, r3, r4, r5, -, -, -, g1, g2, g3, g4, g5, g6, -⟩ := hL
  have w1 := hw.2.1.1
  have w2 := hw.2.1.2.1
  have w3 := hw.2.2.1.1
  have e := (hR7 (iN 0)).1
  refine ⟨up_2 I m 7 (iN 0), ?_, PN_7 h⟩
  rw [c_297, b_297_0]
  simp (disch := omega) only [rd_I_mk, rd_R_mk, rd_L_mk, rd_D_mk, kd_mk, wr_I_mk, cp_mk, gd_true, bd_ret, bd_thr, vl_none, vl_some, iN_add, iN_mul, iN_sub, iN_lt, iN_eq, iN_n, iN_m1, iN_pred, vp_iN, K0_le, nr_b0, nr_b1, m1_lt, lt_m1, iN_ne_m1, m1_ne_iN, not_lt_z, true_and, and_true, and_self, or_true, true_or, or_false, false_or, if_true, if_false, ↓reduceIte, eq_self, up_at, up_a, up_k, cp_c, cp_b, Nat.zero_add, Nat.add_zero, Nat.sub_zero, Nat.le_refl, Nat.add_sub_cancel, fu_at, fu_ne, iN_nz, n10_f, n01_f, ofN, qq_at_100, k110b, Nat.lt_irrefl, Nat.not_lt_zero, ne_eq, not_false_eq_true, not_true_eq_false, k0, b_297_3, r0, g1, e]
theorem n_upheld (h : R_N I τ m B C) : NQ d 298 [.ref m] I τ m B (s_up (g_S C)) 0 C := by
  have hL := h.1
  have hR := h.2.1
  have hw := h.2.2.1
  have hR7 : ∀ v, R_F (up_2 I m 7 v (m + 1)) (g_S C) := fun v => R_F_7 hR
  obtain ⟨m70, k0, r0, r1, r2, r3, r4, r5, -, -, -, g1, g2, g3, g4, g5, g6, -⟩ := hL
  have w1 := hw.2.1.1
  have w2 := hw.2.1.2.1
  have w3 := hw.2.2.1.1
  have e := (hR7 (iN 0)).2.2.2.2.1
  refine ⟨up_2 I m 7 (iN 0), ?_, PN_7 h⟩
  rw [c_298, b_298_0]
  simp (disch := omega) only [rd_I_mk, rd_R_mk, rd_L_mk, rd_D_mk, kd_mk, wr_I_mk, cp_mk, gd_true, bd_ret, bd_thr, vl_none, vl_some, iN_add, iN_mul, iN_sub, iN_lt, iN_eq, iN_n, iN_m1, iN_pred, vp_iN, K0_le, nr_b0, nr_b1, m1_lt, lt_m1, iN_ne_m1, m1_ne_iN, not_lt_z, true_and, and_true, and_self, or_true, true_or, or_false, false_or, if_true, if_false, ↓reduceIte, eq_self, up_at, up_a, up_k, cp_c, cp_b, Nat.zero_add, Nat.add_zero, Nat.sub_zero, Nat.le_refl, Nat.add_sub_cancel, fu_at, fu_ne, iN_nz, n10_f, n01_f, ofN, qq_at_100, k110b, Nat.lt_irrefl, Nat.not_lt_zero, ne_eq, not_false_eq_true, not_true_eq_false, k0, b_298_3, r0, g1, e]
theorem n_dismissed (h : R_N I τ m B C) : NQ d 299 [.ref m] I τ m B (s_di (g_S C)) 0 C := by
  have hL := h.1
  have hR := h.2.1
  have hw := h.2.2.1
  have hR7 : ∀ v, R_F (up_2 I m 7 v (m + 1)) (g_S C) := fun v => R_F_7 hR
  obtain ⟨m70, k0, r0, r1, r2, r3, r4, r5, -, -, -, g1, g2, g3, g4, g5, g6, -⟩ := hL
  have w1 := hw.2.1.1
  have w2 := hw.2.1.2.1
  have w3 := hw.2.2.1.1
  have e := (hR7 (iN 0)).2.2.2.2.2.1
  refine ⟨up_2 I m 7 (iN 0), ?_, PN_7 h⟩
  rw [c_299, b_299_0]
  simp (disch := omega) only [rd_I_mk, rd_R_mk, rd_L_mk, rd_D_mk, kd_mk, wr_I_mk, cp_mk, gd_true, bd_ret, bd_thr, vl_none, vl_some, iN_add, iN_mul, iN_sub, iN_lt, iN_eq, iN_n, iN_m1, iN_pred, vp_iN, K0_le, nr_b0, nr_b1, m1_lt, lt_m1, iN_ne_m1, m1_ne_iN, not_lt_z, true_and, and_true, and_self, or_true, true_or, or_false, false_or, if_true, if_false, ↓reduceIte, eq_self, up_at, up_a, up_k, cp_c, cp_b, Nat.zero_add, Nat.add_zero, Nat.sub_zero, Nat.le_refl, Nat.add_sub_cancel, fu_at, fu_ne, iN_nz, n10_f, n01_f, ofN, qq_at_100, k110b, Nat.lt_irrefl, Nat.not_lt_zero, ne_eq, not_false_eq_true, not_true_eq_false, k0, b_299_3, r0, g1, e]
theorem n_lapsed (h : R_N I τ m B C) : NQ d 300 [.ref m] I τ m B (s_la (g_S C)) 0 C := by
  have hL := h.1
  have hR := h.2.1
  have hw := h.2.2.1
  have hR7 : ∀ v, R_F (up_2 I m 7 v (m + 1)) (g_S C) := fun v => R_F_7 hR
  obtain ⟨m70, k0, r0, r1, r2, r3, r4, r5, -, -, -, g1, g2, g3, g4, g5, g6, -⟩ := hL
  have w1 := hw.2.1.1
  have w2 := hw.2.1.2.1
  have w3 := hw.2.2.1.1
  have e := (hR7 (iN 0)).2.2.2.2.2.2.1
  refine ⟨up_2 I m 7 (iN 0), ?_, PN_7 h⟩
  rw [c_300, b_300_0]
  simp (disch := omega) only [rd_I_mk, rd_R_mk, rd_L_mk, rd_D_mk, kd_mk, wr_I_mk, cp_mk, gd_true, bd_ret, bd_thr, vl_none, vl_some, iN_add, iN_mul, iN_sub, iN_lt, iN_eq, iN_n, iN_m1, iN_pred, vp_iN, K0_le, nr_b0, nr_b1, m1_lt, lt_m1, iN_ne_m1, m1_ne_iN, not_lt_z, true_and, and_true, and_self, or_true, true_or, or_false, false_or, if_true, if_false, ↓reduceIte, eq_self, up_at, up_a, up_k, cp_c, cp_b, Nat.zero_add, Nat.add_zero, Nat.sub_zero, Nat.le_refl, Nat.add_sub_cancel, fu_at, fu_ne, iN_nz, n10_f, n01_f, ofN, qq_at_100, k110b, Nat.lt_irrefl, Nat.not_lt_zero, ne_eq, not_false_eq_true, not_true_eq_false, k0, b_300_3, r0, g1, e]
theorem n_arrow (h : R_N I τ m B C) (x : Int32) : NQ d 257 [.ref m, .int x] I τ m B (qv (q_arrow (g_S C) x)) (qc [0] (q_arrow (g_S C) x)) C := by
  have hL := h.1
  have hR := h.2.1
  have hw := h.2.2.1
  have hR7 : ∀ v, R_F (up_2 I m 7 v (m + 1)) (g_S C) := fun v => R_F_7 hR
  obtain ⟨m70, k0, r0, r1, r2, r3, r4, r5, -, -, -, g1, g2, g3, g4, g5, g6, -⟩ := hL
  have w1 := hw.2.1.1
  have w2 := hw.2.1.2.1
  have w3 := hw.2.2.1.1
  have q1 := c_isPedestal (d := d + 38) h.1 hR hw x
  unfold q_arrow
  cases hx : inN (p_np (s_P (g_S C))) x with
  | false =>
    rw [hx, b01_f] at q1
    refine ⟨up_2 I m 7 (iN 1), ?_, PN_7 h⟩
    rw [c_257, b_257_0]
    simp (disch := omega) only [rd_I_mk, rd_R_mk, rd_L_mk, rd_D_mk, kd_mk, wr_I_mk, cp_mk, gd_true, bd_ret, bd_thr, vl_none, vl_some, iN_add, iN_mul, iN_sub, iN_lt, iN_eq, iN_n, iN_m1, iN_pred, vp_iN, K0_le, nr_b0, nr_b1, m1_lt, lt_m1, iN_ne_m1, m1_ne_iN, not_lt_z, true_and, and_true, and_self, or_true, true_or, or_false, false_or, if_true, if_false, ↓reduceIte, eq_self, up_at, up_a, up_k, cp_c, cp_b, Nat.zero_add, Nat.add_zero, Nat.sub_zero, Nat.le_refl, Nat.add_sub_cancel, fu_at, fu_ne, iN_nz, n10_f, n01_f, ofN, qq_at_100, k110b, Nat.lt_irrefl, Nat.not_lt_zero, ne_eq, not_false_eq_true, not_true_eq_false, k0, q1, b_257_4, b_257_8, b_257_10, b_257_19, thT k0 m70]
    rfl
  | true =>
    rw [hx, b01_t] at q1
    obtain ⟨j, hj, rfl⟩ := (inN_iff (by omega)).mp hx
    rw [if_pos rfl, tn_iN (by omega)]
    have e := (hR7 (iN 0)).2.2.2.2.2.2.2.2.2.2.2.1 j hj
    refine ⟨up_2 I m 7 (iN 0), ?_, PN_7 h⟩
    rw [c_257, b_257_0]
    simp (disch := omega) only [rd_I_mk, rd_R_mk, rd_L_mk, rd_D_mk, kd_mk, wr_I_mk, cp_mk, gd_true, bd_ret, bd_thr, vl_none, vl_some, iN_add, iN_mul, iN_sub, iN_lt, iN_eq, iN_n, iN_m1, iN_pred, vp_iN, K0_le, nr_b0, nr_b1, m1_lt, lt_m1, iN_ne_m1, m1_ne_iN, not_lt_z, true_and, and_true, and_self, or_true, true_or, or_false, false_or, if_true, if_false, ↓reduceIte, eq_self, up_at, up_a, up_k, cp_c, cp_b, Nat.zero_add, Nat.add_zero, Nat.sub_zero, Nat.le_refl, Nat.add_sub_cancel, fu_at, fu_ne, iN_nz, n10_f, n01_f, ofN, qq_at_100, k110b, Nat.lt_irrefl, Nat.not_lt_zero, ne_eq, not_false_eq_true, not_true_eq_false, k0, q1, b_257_4, b_257_8, thF k0 m70, b_257_10, r0, g1, e, b_257_19]
    rfl
theorem n_isFree (h : R_N I τ m B C) (x : Int32) : NQ d 258 [.ref m, .int x] I τ m B (qv (q_isFree (g_S C) x)) (qc [0] (q_isFree (g_S C) x)) C := by
  have hL := h.1
  have hR := h.2.1
  have hw := h.2.2.1
  have hR7 : ∀ v, R_F (up_2 I m 7 v (m + 1)) (g_S C) := fun v => R_F_7 hR
  obtain ⟨m70, k0, r0, r1, r2, r3, r4, r5, -, -, -, g1, g2, g3, g4, g5, g6, -⟩ := hL
  have w1 := hw.2.1.1
  have w2 := hw.2.1.2.1
  have w3 := hw.2.2.1.1
  have q1 := c_isPedestal (d := d + 38) h.1 hR hw x
  unfold q_isFree
  cases hx : inN (p_np (s_P (g_S C))) x with
  | false =>
    rw [hx, b01_f] at q1
    refine ⟨up_2 I m 7 (iN 1), ?_, PN_7 h⟩
    rw [c_258, b_258_0]
    simp (disch := omega) only [rd_I_mk, rd_R_mk, rd_L_mk, rd_D_mk, kd_mk, wr_I_mk, cp_mk, gd_true, bd_ret, bd_thr, vl_none, vl_some, iN_add, iN_mul, iN_sub, iN_lt, iN_eq, iN_n, iN_m1, iN_pred, vp_iN, K0_le, nr_b0, nr_b1, m1_lt, lt_m1, iN_ne_m1, m1_ne_iN, not_lt_z, true_and, and_true, and_self, or_true, true_or, or_false, false_or, if_true, if_false, ↓reduceIte, eq_self, up_at, up_a, up_k, cp_c, cp_b, Nat.zero_add, Nat.add_zero, Nat.sub_zero, Nat.le_refl, Nat.add_sub_cancel, fu_at, fu_ne, iN_nz, n10_f, n01_f, ofN, qq_at_100, k110b, Nat.lt_irrefl, Nat.not_lt_zero, ne_eq, not_false_eq_true, not_true_eq_false, k0, q1, b_258_4, b_258_8, b_258_10, b_258_17, b_258_18, nr_b0, thT k0 m70]
    rfl
  | true =>
    rw [hx, b01_t] at q1
    obtain ⟨j, hj, rfl⟩ := (inN_iff (by omega)).mp hx
    rw [if_pos rfl, tn_iN (by omega)]
    have q2 := c_on (d := d + 38) h.1 (hR7 (iN 0)) hw (x := j) (by omega)
    refine ⟨up_2 I m 7 (iN 0), ?_, PN_7 h⟩
    rw [c_258, b_258_0]
    cases ho : onP (s_P (g_S C)) j with
    | none =>
      rw [ho] at q2
      simp (disch := omega) only [rd_I_mk, rd_R_mk, rd_L_mk, rd_D_mk, kd_mk, wr_I_mk, cp_mk, gd_true, bd_ret, bd_thr, vl_none, vl_some, iN_add, iN_mul, iN_sub, iN_lt, iN_eq, iN_n, iN_m1, iN_pred, vp_iN, K0_le, nr_b0, nr_b1, m1_lt, lt_m1, iN_ne_m1, m1_ne_iN, not_lt_z, true_and, and_true, and_self, or_true, true_or, or_false, false_or, if_true, if_false, ↓reduceIte, eq_self, up_at, up_a, up_k, cp_c, cp_b, Nat.zero_add, Nat.add_zero, Nat.sub_zero, Nat.le_refl, Nat.add_sub_cancel, fu_at, fu_ne, iN_nz, n10_f, n01_f, ofN, qq_at_100, k110b, Nat.lt_irrefl, Nat.not_lt_zero, ne_eq, not_false_eq_true, not_true_eq_false, k0, q1, b_258_4, b_258_8, thF k0 m70, b_258_10, q2, oN, b_258_14, b_258_18, nr_b1]
      rfl
    | some i =>
      rw [ho] at q2
      have hi : i < 6 := by
        have := (ff_some _ _ _ ho).2.1
        omega
      simp (disch := omega) only [rd_I_mk, rd_R_mk, rd_L_mk, rd_D_mk, kd_mk, wr_I_mk, cp_mk, gd_true, bd_ret, bd_thr, vl_none, vl_some, iN_add, iN_mul, iN_sub, iN_lt, iN_eq, iN_n, iN_m1, iN_pred, vp_iN, K0_le, nr_b0, nr_b1, m1_lt, lt_m1, iN_ne_m1, m1_ne_iN, not_lt_z, true_and, and_true, and_self, or_true, true_or, or_false, false_or, if_true, if_false, ↓reduceIte, eq_self, up_at, up_a, up_k, cp_c, cp_b, Nat.zero_add, Nat.add_zero, Nat.sub_zero, Nat.le_refl, Nat.add_sub_cancel, fu_at, fu_ne, iN_nz, n10_f, n01_f, ofN, qq_at_100, k110b, Nat.lt_irrefl, Nat.not_lt_zero, ne_eq, not_false_eq_true, not_true_eq_false, k0, q1, b_258_4, b_258_8, thF k0 m70, b_258_10, q2, oN, b_258_14, b_258_17, b_258_18, nr_b0]
      rfl
theorem n_statueOn (h : R_N I τ m B C) (x : Int32) : NQ d 259 [.ref m, .int x] I τ m B (qv (q_statueOn (g_S C) x)) (qc [0, 3] (q_statueOn (g_S C) x)) C := by
  have hL := h.1
  have hR := h.2.1
  have hw := h.2.2.1
  have hR7 : ∀ v, R_F (up_2 I m 7 v (m + 1)) (g_S C) := fun v => R_F_7 hR
  obtain ⟨m70, k0, r0, r1, r2, r3, r4, r5, -, -, -, g1, g2, g3, g4, g5, g6, -⟩ := hL
  have w1 := hw.2.1.1
  have w2 := hw.2.1.2.1
  have w3 := hw.2.2.1.1
  have q1 := c_isPedestal (d := d + 38) h.1 hR hw x
  unfold q_statueOn
  cases hx : inN (p_np (s_P (g_S C))) x with
  | false =>
    rw [hx, b01_f] at q1
    refine ⟨up_2 I m 7 (iN 1), ?_, PN_7 h⟩
    rw [c_259, b_259_0]
    simp (disch := omega) only [rd_I_mk, rd_R_mk, rd_L_mk, rd_D_mk, kd_mk, wr_I_mk, cp_mk, gd_true, bd_ret, bd_thr, vl_none, vl_some, iN_add, iN_mul, iN_sub, iN_lt, iN_eq, iN_n, iN_m1, iN_pred, vp_iN, K0_le, nr_b0, nr_b1, m1_lt, lt_m1, iN_ne_m1, m1_ne_iN, not_lt_z, true_and, and_true, and_self, or_true, true_or, or_false, false_or, if_true, if_false, ↓reduceIte, eq_self, up_at, up_a, up_k, cp_c, cp_b, Nat.zero_add, Nat.add_zero, Nat.sub_zero, Nat.le_refl, Nat.add_sub_cancel, fu_at, fu_ne, iN_nz, n10_f, n01_f, ofN, qq_at_100, k110b, Nat.lt_irrefl, Nat.not_lt_zero, ne_eq, not_false_eq_true, not_true_eq_false, k0, q1, b_259_4, b_259_8, b_259_10, b_259_22, b_259_27, thT k0 m70]
    rfl
  | true =>
    rw [hx, b01_t] at q1
    obtain ⟨j, hj, rfl⟩ := (inN_iff (by omega)).mp hx
    rw [if_pos rfl, tn_iN (by omega)]
    have q2 : ∀ v, CC (d + 39) 221 [.ref m, .int (iN j)] (up_2 I m 7 v, τ) = some (.inl (some (.int (oN (onP (s_P (g_S C)) j)))), (up_2 I m 7 v, τ)) := fun v => c_on (d := d + 38) h.1 (hR7 v) hw (x := j) (by omega)
    cases ho : onP (s_P (g_S C)) j with
    | none =>
      rw [ho] at q2
      refine ⟨up_2 I m 7 (iN 2), ?_, PN_7 h⟩
      rw [c_259, b_259_0]
      simp (disch := omega) only [rd_I_mk, rd_R_mk, rd_L_mk, rd_D_mk, kd_mk, wr_I_mk, cp_mk, gd_true, bd_ret, bd_thr, vl_none, vl_some, iN_add, iN_mul, iN_sub, iN_lt, iN_eq, iN_n, iN_m1, iN_pred, vp_iN, K0_le, nr_b0, nr_b1, m1_lt, lt_m1, iN_ne_m1, m1_ne_iN, not_lt_z, true_and, and_true, and_self, or_true, true_or, or_false, false_or, if_true, if_false, ↓reduceIte, eq_self, up_at, up_a, up_k, cp_c, cp_b, Nat.zero_add, Nat.add_zero, Nat.sub_zero, Nat.le_refl, Nat.add_sub_cancel, fu_at, fu_ne, iN_nz, n10_f, n01_f, ofN, qq_at_100, k110b, Nat.lt_irrefl, Nat.not_lt_zero, ne_eq, not_false_eq_true, not_true_eq_false, k0, q1, b_259_4, b_259_8, thF k0 m70, b_259_10, q2, oN, b_259_15, b_259_19, thT k0 m70, b_259_21, b_259_22, b_259_27, up_up]
      rfl
    | some i =>
      rw [ho] at q2
      have hi : i < 6 := by
        have := (ff_some _ _ _ ho).2.1
        omega
      refine ⟨up_2 I m 7 (iN 0), ?_, PN_7 h⟩
      rw [c_259, b_259_0]
      simp (disch := omega) only [rd_I_mk, rd_R_mk, rd_L_mk, rd_D_mk, kd_mk, wr_I_mk, cp_mk, gd_true, bd_ret, bd_thr, vl_none, vl_some, iN_add, iN_mul, iN_sub, iN_lt, iN_eq, iN_n, iN_m1, iN_pred, vp_iN, K0_le, nr_b0, nr_b1, m1_lt, lt_m1, iN_ne_m1, m1_ne_iN, not_lt_z, true_and, and_true, and_self, or_true, true_or, or_false, false_or, if_true, if_false, ↓reduceIte, eq_self, up_at, up_a, up_k, cp_c, cp_b, Nat.zero_add, Nat.add_zero, Nat.sub_zero, Nat.le_refl, Nat.add_sub_cancel, fu_at, fu_ne, iN_nz, n10_f, n01_f, ofN, qq_at_100, k110b, Nat.lt_irrefl, Nat.not_lt_zero, ne_eq, not_false_eq_true, not_true_eq_false, k0, q1, b_259_4, b_259_8, thF k0 m70, b_259_10, q2, oN, b_259_15, b_259_19, b_259_21, b_259_27, up_up]
      rfl
theorem c_after {S : sS} (hL : L_N τ m) (hR : R_F (I (m + 1)) S) (hw : wS B S) {x n : Nat} (hx : x < p_np (s_P S)) (hn : n ≤ 1000000) : CC d 260 [.ref m, .int (iN x), .int (iN n)] (I, τ) = some (.inl (some (.int (iN (it (p_ar (s_P S)) n x)))), (I, τ)) := by
  obtain ⟨m70, k0, r0, r1, r2, r3, r4, r5, -, -, -, g1, -⟩ := hL
  have w1 := hw.2.1.1
  have lp : ∀ q k y, k + q = n → y < p_np (s_P S) → RR d 260 4 [some (.ref m), some (.int (iN x)), some (.int (iN n)), some (.int (iN y)), some (.int (iN k))] [] (I, τ) = some (.inl (some (.int (iN (it (p_ar (s_P S)) q y)))), (I, τ)) := by
    intro q
    induction q with
    | zero =>
      intro k y hk hy
      have hk : k = n := hk
      subst hk
      rw [b_260_4]
      simp (disch := omega) only [rd_I_mk, rd_R_mk, rd_L_mk, rd_D_mk, kd_mk, wr_I_mk, cp_mk, gd_true, bd_ret, bd_thr, vl_none, vl_some, iN_add, iN_mul, iN_sub, iN_lt, iN_eq, iN_n, iN_m1, iN_pred, vp_iN, K0_le, nr_b0, nr_b1, m1_lt, lt_m1, iN_ne_m1, m1_ne_iN, not_lt_z, true_and, and_true, and_self, or_true, true_or, or_false, false_or, if_true, if_false, ↓reduceIte, eq_self, up_at, up_a, up_k, cp_c, cp_b, Nat.zero_add, Nat.add_zero, Nat.sub_zero, Nat.le_refl, Nat.add_sub_cancel, fu_at, fu_ne, iN_nz, n10_f, n01_f, ofN, qq_at_100, k110b, Nat.lt_irrefl, Nat.not_lt_zero, ne_eq, not_false_eq_true, not_true_eq_false]
      rfl
    | succ q ih =>
      intro k y hk hy
      have e : k < n := by omega
      have r := hR.2.2.2.2.2.2.2.2.2.2.2.1 y hy
      have t := ih (k + 1) (p_ar (s_P S) y) (by omega) (hw.2.1.2.2.1 y hy)
      rw [b_260_4]
      simp (disch := omega) only [rd_I_mk, rd_R_mk, rd_L_mk, rd_D_mk, kd_mk, wr_I_mk, cp_mk, gd_true, bd_ret, bd_thr, vl_none, vl_some, iN_add, iN_mul, iN_sub, iN_lt, iN_eq, iN_n, iN_m1, iN_pred, vp_iN, K0_le, nr_b0, nr_b1, m1_lt, lt_m1, iN_ne_m1, m1_ne_iN, not_lt_z, true_and, and_true, and_self, or_true, true_or, or_false, false_or, if_true, if_false, ↓reduceIte, eq_self, up_at, up_a, up_k, cp_c, cp_b, Nat.zero_add, Nat.add_zero, Nat.sub_zero, Nat.le_refl, Nat.add_sub_cancel, fu_at, fu_ne, iN_nz, n10_f, n01_f, ofN, qq_at_100, k110b, Nat.lt_irrefl, Nat.not_lt_zero, ne_eq, not_false_eq_true, not_true_eq_false, e, k0, r0, g1, r]
      exact t
  rw [c_260, b_260_0]
  exact lp n 0 x (Nat.zero_add _) hx
theorem s_after (h : R_N I τ m B C) (x n : Int32) : NR (d + 2) 261 [.ref m, .int x, .int n] I τ m B (qv (q_after (g_S C) x n)) (qc [0, 1] (q_after (g_S C) x n)) C := by
  have hL := h.1
  have hR := h.2.1
  have hw := h.2.2.1
  have hR7 : ∀ v, R_F (up_2 I m 7 v (m + 1)) (g_S C) := fun v => R_F_7 hR
  obtain ⟨m70, k0, r0, r1, r2, r3, r4, r5, -, -, -, g1, g2, g3, g4, g5, g6, -⟩ := hL
  have w1 := hw.2.1.1
  have w2 := hw.2.1.2.1
  have w3 := hw.2.2.1.1
  have q1 := c_isPedestal (d := d) h.1 hR hw x
  unfold q_after
  cases hx : inN (p_np (s_P (g_S C))) x with
  | false =>
    rw [hx, b01_f] at q1
    refine ⟨up_2 I m 7 (iN 1), ?_, PN_7 h⟩
    rw [c_261, b_261_0]
    simp (disch := omega) only [rd_I_mk, rd_R_mk, rd_L_mk, rd_D_mk, kd_mk, wr_I_mk, cp_mk, gd_true, bd_ret, bd_thr, vl_none, vl_some, iN_add, iN_mul, iN_sub, iN_lt, iN_eq, iN_n, iN_m1, iN_pred, vp_iN, K0_le, nr_b0, nr_b1, m1_lt, lt_m1, iN_ne_m1, m1_ne_iN, not_lt_z, true_and, and_true, and_self, or_true, true_or, or_false, false_or, if_true, if_false, ↓reduceIte, eq_self, up_at, up_a, up_k, cp_c, cp_b, Nat.zero_add, Nat.add_zero, Nat.sub_zero, Nat.le_refl, Nat.add_sub_cancel, fu_at, fu_ne, iN_nz, n10_f, n01_f, ofN, qq_at_100, k110b, Nat.lt_irrefl, Nat.not_lt_zero, ne_eq, not_false_eq_true, not_true_eq_false, k0, q1, b_261_4, b_261_8, b_261_10, thT k0 m70, b_261_23, b_261_29]
    rfl
  | true =>
    rw [hx, b01_t] at q1
    obtain ⟨j, hj, rfl⟩ := (inN_iff (by omega)).mp hx
    rw [if_pos rfl, tn_iN (by omega)]
    have q2 : ∀ v, CC (d + 1) 209 [.int n, .int (iN 0), .int (iN 9999)] (up_2 I m 7 v, τ) = some (.inl (some (.int (b01 (inB 0 9999 n)))), (up_2 I m 7 v, τ)) := fun v => c_isIn
    cases hn : inB 0 9999 n with
    | false =>
      rw [hn, b01_f] at q2
      refine ⟨up_2 I m 7 (iN 2), ?_, PN_7 h⟩
      rw [c_261, b_261_0]
      simp (disch := omega) only [rd_I_mk, rd_R_mk, rd_L_mk, rd_D_mk, kd_mk, wr_I_mk, cp_mk, gd_true, bd_ret, bd_thr, vl_none, vl_some, iN_add, iN_mul, iN_sub, iN_lt, iN_eq, iN_n, iN_m1, iN_pred, vp_iN, K0_le, nr_b0, nr_b1, m1_lt, lt_m1, iN_ne_m1, m1_ne_iN, not_lt_z, true_and, and_true, and_self, or_true, true_or, or_false, false_or, if_true, if_false, ↓reduceIte, eq_self, up_at, up_a, up_k, cp_c, cp_b, Nat.zero_add, Nat.add_zero, Nat.sub_zero, Nat.le_refl, Nat.add_sub_cancel, fu_at, fu_ne, iN_nz, n10_f, n01_f, ofN, qq_at_100, k110b, Nat.lt_irrefl, Nat.not_lt_zero, ne_eq, not_false_eq_true, not_true_eq_false, k0, q1, b_261_4, b_261_8, b_261_10, thF k0 m70, q2, b_261_16, b_261_20, thT k0 m70, b_261_22, b_261_23, b_261_29, up_up]
      rfl
    | true =>
      rw [hn, b01_t] at q2
      obtain ⟨i, hi0, hi, rfl⟩ := (inB_iff (by omega) (by omega)).mp hn
      rw [if_pos rfl, tn_iN (by omega)]
      have q3 := c_after (d := d + 1) h.1 (hR7 (iN 0)) hw hj (n := i) (by omega)
      refine ⟨up_2 I m 7 (iN 0), ?_, PN_7 h⟩
      rw [c_261, b_261_0]
      simp (disch := omega) only [rd_I_mk, rd_R_mk, rd_L_mk, rd_D_mk, kd_mk, wr_I_mk, cp_mk, gd_true, bd_ret, bd_thr, vl_none, vl_some, iN_add, iN_mul, iN_sub, iN_lt, iN_eq, iN_n, iN_m1, iN_pred, vp_iN, K0_le, nr_b0, nr_b1, m1_lt, lt_m1, iN_ne_m1, m1_ne_iN, not_lt_z, true_and, and_true, and_self, or_true, true_or, or_false, false_or, if_true, if_false, ↓reduceIte, eq_self, up_at, up_a, up_k, cp_c, cp_b, Nat.zero_add, Nat.add_zero, Nat.sub_zero, Nat.le_refl, Nat.add_sub_cancel, fu_at, fu_ne, iN_nz, n10_f, n01_f, ofN, qq_at_100, k110b, Nat.lt_irrefl, Nat.not_lt_zero, ne_eq, not_false_eq_true, not_true_eq_false, k0, q1, b_261_4, b_261_8, b_261_10, thF k0 m70, q2, b_261_16, b_261_20, b_261_22, q3, b_261_29, up_up]
      rfl
theorem n_after (h : R_N I τ m B C) (x n : Int32) : NQ d 261 [.ref m, .int x, .int n] I τ m B (qv (q_after (g_S C) x n)) (qc [0, 1] (q_after (g_S C) x n)) C := s_after (d := d + 38) h x n
theorem n_byDoubling (h : R_N I τ m B C) (x n : Int32) : NQ d 262 [.ref m, .int x, .int n] I τ m B (qv (q_after (g_S C) x n)) (qc [0, 1] (q_after (g_S C) x n)) C := by
  obtain ⟨I', t1, t2⟩ := s_after (d := d + 37) h x n
  refine ⟨I', ?_, t2⟩
  have k0 := h.1.2.1
  rw [c_262, b_262_0]
  simp (disch := omega) only [rd_I_mk, rd_R_mk, rd_L_mk, rd_D_mk, kd_mk, wr_I_mk, cp_mk, gd_true, bd_ret, bd_thr, vl_none, vl_some, iN_add, iN_mul, iN_sub, iN_lt, iN_eq, iN_n, iN_m1, iN_pred, vp_iN, K0_le, nr_b0, nr_b1, m1_lt, lt_m1, iN_ne_m1, m1_ne_iN, not_lt_z, true_and, and_true, and_self, or_true, true_or, or_false, false_or, if_true, if_false, ↓reduceIte, eq_self, up_at, up_a, up_k, cp_c, cp_b, Nat.zero_add, Nat.add_zero, Nat.sub_zero, Nat.le_refl, Nat.add_sub_cancel, fu_at, fu_ne, iN_nz, n10_f, n01_f, ofN, qq_at_100, k110b, Nat.lt_irrefl, Nat.not_lt_zero, ne_eq, not_false_eq_true, not_true_eq_false, k0, t1, b_262_4]
end MQ
