/-! PUBLIC CALLS THAT ASK -/
def q_arrow (S : sS) (x : Int32) : qR := if inN (p_np (s_P S)) x = true then .inl (iN (p_ar (s_P S) (tn x))) else .inr 0
def q_isFree (S : sS) (x : Int32) : qR := if inN (p_np (s_P S)) x = true then .inl (b01 (onP (s_P S) (tn x)).isNone) else .inr 0
def qE (o : Option Nat) : qR := match o with
  | none => .inr 3
  | some k => .inl (iN k)
def q_statueOn (S : sS) (x : Int32) : qR := if inN (p_np (s_P S)) x = true then qE (onP (s_P S) (tn x)) else .inr 0
def q_after (S : sS) (x n : Int32) : qR := if inN (p_np (s_P S)) x = true then (if inB 0 9999 n = true then .inl (iN (it (p_ar (s_P S)) (tn n) (tn x))) else .inr 1) else .inr 0
def q_round (S : sS) (x : Int32) : qR := if inN (p_np (s_P S)) x = true then .inl (iN (rlen (s_P S) (tn x))) else .inr 0
def q_sta (f : Nat → Int32) (S : sS) (x : Int32) : qR := if inN (p_ns (s_P S)) x = true then .inl (f (tn x)) else .inr 0
def q_byWeight (S : sS) (x : Int32) : qR := if inN (p_ns (s_P S)) x = true then .inl (iN ((p_hf (s_P S)).getD (tn x) 0)) else .inr 3
def q_nights (S : sS) (x : Int32) : qR := if inN (p_ns (s_P S)) x = true then (if nuV 50 S (tn x) 0 = m1 then .inr 3 else .inl (nuV 50 S (tn x) 0)) else .inr 0
def q_writAt (S : sS) (x : Int32) : qR := if inN (un (s_U S)) x = true then .inl (iN (w_id (ug (s_U S) (tn x)))) else .inr 3
def q_wr (f : Nat → Int32) (S : sS) (x : Int32) : qR := match fiX (s_U S) x with
  | none => .inr 3
  | some k => .inl (f k)
def q_cause (S : sS) (x : Int32) : qR := match fiX (s_U S) x with
  | none => .inr 3
  | some k => if w_ca (ug (s_U S) k) = 0 then .inr 3 else .inl (iN (w_ca (ug (s_U S) k) - 1))
def q_byLast (S : sS) (x : Int32) : qR := if inN (un (s_U S)) x = true then .inl (iN (w_id (ug (s_U S) (ow (s_U S) (tn x))))) else .inr 3
def q_blocks (S : sS) (x : Int32) : qR := if inB 1 20 x = true then .inl (iN (m_bl (s_M S) (tn x))) else .inr 1
def q_fewest (S : sS) (x : Int32) : qR := if inB 1 60 x = true then (if fw (m_bl (s_M S)) 20 (tn x) = 1000 then .inr 4 else .inl (iN (fw (m_bl (s_M S)) 20 (tn x)))) else .inr 1
section AS
variable {d : Nat} {I : qq_I} {τ : qq_R} {c Z B : Nat} {C : sC}
theorem PC_thr {I' : qq_I} {τ' : qq_R} (h : PC I τ c Z B I' τ' C) (hz : tZ τ' ≤ tZ τ := by exact Nat.le_refl _) (hu : tU τ' ≤ tU τ := by exact Nat.le_refl _) : PC I τ c Z B (nwI τ' I') (nT τ' (201, 0) 6) C :=
  ⟨R_C_nw h.1, Gf_tr h.2.1 (Gf_nw (A := fun a => (c ≤ a ∧ a < c + 238) ∨ Z ≤ a)) (fun _ _ z => z) (fun _ _ z => z), by rw [nT_Z]; omega, by rw [nT_U]; omega⟩
theorem p_pedestalCount (h : R_C I τ c Z B C) : ∃ I' τ', CC (d + 40) 140 [.ref c] (I, τ) = some (oO (.inl (iN (p_np (s_P (g_S C))))), (I', τ')) ∧ PC I τ c Z B I' τ' C := by
  have h0 := h
  obtain ⟨g1, g2, g3, g4, g5, gx⟩ := h
  have c70 := g1.1
  have k12 := g1.2.1
  have e0 := g1.2.2.1
  have hl := g1.2.2.2.2.2.2.2.2.2.2.2.1
  have k8 := hl.2.1
  have lp := hl.2.2.2.2.2.1
  have lw := hl.2.2.2.2.2.2.1
  have lm := hl.2.2.2.2.2.2.2
  have w1 := g3.2.1.1
  have w2 := g3.2.1.2.1
  have w3 := g3.2.2.1.1
  have w4 := g3.2.2.1.2.1
  have wb := g3.1
  have f0 := hl.2.2.1
  have k7 := lp.2.1
  have r0 := g2.1.1
  refine ⟨I, τ, ?_, PC_rf h0⟩
  rw [c_140, b_140_0]
  simp (disch := omega) only [rd_I_mk, rd_R_mk, rd_L_mk, rd_D_mk, kd_mk, wr_I_mk, cp_mk, gd_true, bd_ret, bd_thr, vl_none, vl_some, iN_add, iN_mul, iN_sub, iN_lt, iN_eq, iN_n, iN_m1, iN_pred, vp_iN, K0_le, nr_b0, nr_b1, m1_lt, lt_m1, iN_ne_m1, m1_ne_iN, not_lt_z, true_and, and_true, and_self, or_true, true_or, or_false, false_or, if_true, if_false, ↓reduceIte, eq_self, up_at, up_a, up_k, cp_c, cp_b, Nat.zero_add, Nat.add_zero, Nat.sub_zero, Nat.le_refl, Nat.add_sub_cancel, fu_at, fu_ne, iN_nz, n10_f, n01_f, ofN, qq_at_100, k110b, Nat.lt_irrefl, Nat.not_lt_zero, ne_eq, not_false_eq_true, not_true_eq_false, k12, e0, k8, f0, k7, r0, oO]
theorem p_statueCount (h : R_C I τ c Z B C) : ∃ I' τ', CC (d + 40) 147 [.ref c] (I, τ) = some (oO (.inl (iN (p_ns (s_P (g_S C))))), (I', τ')) ∧ PC I τ c Z B I' τ' C := by
  have h0 := h
  obtain ⟨g1, g2, g3, g4, g5, gx⟩ := h
  have c70 := g1.1
  have k12 := g1.2.1
  have e0 := g1.2.2.1
  have hl := g1.2.2.2.2.2.2.2.2.2.2.2.1
  have k8 := hl.2.1
  have lp := hl.2.2.2.2.2.1
  have lw := hl.2.2.2.2.2.2.1
  have lm := hl.2.2.2.2.2.2.2
  have w1 := g3.2.1.1
  have w2 := g3.2.1.2.1
  have w3 := g3.2.2.1.1
  have w4 := g3.2.2.1.2.1
  have wb := g3.1
  have f0 := hl.2.2.1
  have k7 := lp.2.1
  have r2 := g2.1.2.1
  refine ⟨I, τ, ?_, PC_rf h0⟩
  rw [c_147, b_147_0]
  simp (disch := omega) only [rd_I_mk, rd_R_mk, rd_L_mk, rd_D_mk, kd_mk, wr_I_mk, cp_mk, gd_true, bd_ret, bd_thr, vl_none, vl_some, iN_add, iN_mul, iN_sub, iN_lt, iN_eq, iN_n, iN_m1, iN_pred, vp_iN, K0_le, nr_b0, nr_b1, m1_lt, lt_m1, iN_ne_m1, m1_ne_iN, not_lt_z, true_and, and_true, and_self, or_true, true_or, or_false, false_or, if_true, if_false, ↓reduceIte, eq_self, up_at, up_a, up_k, cp_c, cp_b, Nat.zero_add, Nat.add_zero, Nat.sub_zero, Nat.le_refl, Nat.add_sub_cancel, fu_at, fu_ne, iN_nz, n10_f, n01_f, ofN, qq_at_100, k110b, Nat.lt_irrefl, Nat.not_lt_zero, ne_eq, not_false_eq_true, not_true_eq_false, k12, e0, k8, f0, k7, r2, oO]
theorem p_writCount (h : R_C I τ c Z B C) : ∃ I' τ', CC (d + 40) 155 [.ref c] (I, τ) = some (oO (.inl (iN (un (s_U (g_S C))))), (I', τ')) ∧ PC I τ c Z B I' τ' C := by
  have h0 := h
  obtain ⟨g1, g2, g3, g4, g5, gx⟩ := h
  have c70 := g1.1
  have k12 := g1.2.1
  have e0 := g1.2.2.1
  have hl := g1.2.2.2.2.2.2.2.2.2.2.2.1
  have k8 := hl.2.1
  have lp := hl.2.2.2.2.2.1
  have lw := hl.2.2.2.2.2.2.1
  have lm := hl.2.2.2.2.2.2.2
  have w1 := g3.2.1.1
  have w2 := g3.2.1.2.1
  have w3 := g3.2.2.1.1
  have w4 := g3.2.2.1.2.1
  have wb := g3.1
  have f1 := hl.2.2.2.1
  have kW := lw.2.1
  have t0 := g2.2.1.1
  refine ⟨I, τ, ?_, PC_rf h0⟩
  rw [c_155, b_155_0]
  simp (disch := omega) only [rd_I_mk, rd_R_mk, rd_L_mk, rd_D_mk, kd_mk, wr_I_mk, cp_mk, gd_true, bd_ret, bd_thr, vl_none, vl_some, iN_add, iN_mul, iN_sub, iN_lt, iN_eq, iN_n, iN_m1, iN_pred, vp_iN, K0_le, nr_b0, nr_b1, m1_lt, lt_m1, iN_ne_m1, m1_ne_iN, not_lt_z, true_and, and_true, and_self, or_true, true_or, or_false, false_or, if_true, if_false, ↓reduceIte, eq_self, up_at, up_a, up_k, cp_c, cp_b, Nat.zero_add, Nat.add_zero, Nat.sub_zero, Nat.le_refl, Nat.add_sub_cancel, fu_at, fu_ne, iN_nz, n10_f, n01_f, ofN, qq_at_100, k110b, Nat.lt_irrefl, Nat.not_lt_zero, ne_eq, not_false_eq_true, not_true_eq_false, k12, e0, k8, f1, kW, t0, oO]
theorem p_treasury (h : R_C I τ c Z B C) : ∃ I' τ', CC (d + 40) 172 [.ref c] (I, τ) = some (oO (.inl (m_tr (s_M (g_S C)))), (I', τ')) ∧ PC I τ c Z B I' τ' C := by
  have h0 := h
  obtain ⟨g1, g2, g3, g4, g5, gx⟩ := h
  have c70 := g1.1
  have k12 := g1.2.1
  have e0 := g1.2.2.1
  have hl := g1.2.2.2.2.2.2.2.2.2.2.2.1
  have k8 := hl.2.1
  have lp := hl.2.2.2.2.2.1
  have lw := hl.2.2.2.2.2.2.1
  have lm := hl.2.2.2.2.2.2.2
  have w1 := g3.2.1.1
  have w2 := g3.2.1.2.1
  have w3 := g3.2.2.1.1
  have w4 := g3.2.2.1.2.1
  have wb := g3.1
  have f2 := hl.2.2.2.2.1
  have kM := lm.2.1
  have mt := g2.2.2.1.2.1
  refine ⟨I, τ, ?_, PC_rf h0⟩
  rw [c_172, b_172_0]
  simp (disch := omega) only [rd_I_mk, rd_R_mk, rd_L_mk, rd_D_mk, kd_mk, wr_I_mk, cp_mk, gd_true, bd_ret, bd_thr, vl_none, vl_some, iN_add, iN_mul, iN_sub, iN_lt, iN_eq, iN_n, iN_m1, iN_pred, vp_iN, K0_le, nr_b0, nr_b1, m1_lt, lt_m1, iN_ne_m1, m1_ne_iN, not_lt_z, true_and, and_true, and_self, or_true, true_or, or_false, false_or, if_true, if_false, ↓reduceIte, eq_self, up_at, up_a, up_k, cp_c, cp_b, Nat.zero_add, Nat.add_zero, Nat.sub_zero, Nat.le_refl, Nat.add_sub_cancel, fu_at, fu_ne, iN_nz, n10_f, n01_f, ofN, qq_at_100, k110b, Nat.lt_irrefl, Nat.not_lt_zero, ne_eq, not_false_eq_true, not_true_eq_false, k12, e0, k8, f2, kM, mt, oO]
theorem p_night (h : R_C I τ c Z B C) : ∃ I' τ', CC (d + 40) 173 [.ref c] (I, τ) = some (oO (.inl (iN (s_ni (g_S C)))), (I', τ')) ∧ PC I τ c Z B I' τ' C := by
  have h0 := h
  obtain ⟨g1, g2, g3, g4, g5, gx⟩ := h
  have c70 := g1.1
  have k12 := g1.2.1
  have e0 := g1.2.2.1
  have hl := g1.2.2.2.2.2.2.2.2.2.2.2.1
  have k8 := hl.2.1
  have lp := hl.2.2.2.2.2.1
  have lw := hl.2.2.2.2.2.2.1
  have lm := hl.2.2.2.2.2.2.2
  have w1 := g3.2.1.1
  have w2 := g3.2.1.2.1
  have w3 := g3.2.2.1.1
  have w4 := g3.2.2.1.2.1
  have wb := g3.1
  have n3 := g2.2.2.2.1
  refine ⟨I, τ, ?_, PC_rf h0⟩
  rw [c_173, b_173_0]
  simp (disch := omega) only [rd_I_mk, rd_R_mk, rd_L_mk, rd_D_mk, kd_mk, wr_I_mk, cp_mk, gd_true, bd_ret, bd_thr, vl_none, vl_some, iN_add, iN_mul, iN_sub, iN_lt, iN_eq, iN_n, iN_m1, iN_pred, vp_iN, K0_le, nr_b0, nr_b1, m1_lt, lt_m1, iN_ne_m1, m1_ne_iN, not_lt_z, true_and, and_true, and_self, or_true, true_or, or_false, false_or, if_true, if_false, ↓reduceIte, eq_self, up_at, up_a, up_k, cp_c, cp_b, Nat.zero_add, Nat.add_zero, Nat.sub_zero, Nat.le_refl, Nat.add_sub_cancel, fu_at, fu_ne, iN_nz, n10_f, n01_f, ofN, qq_at_100, k110b, Nat.lt_irrefl, Nat.not_lt_zero, ne_eq, not_false_eq_true, not_true_eq_false, k12, e0, k8, n3, oO]
theorem p_upheld (h : R_C I τ c Z B C) : ∃ I' τ', CC (d + 40) 174 [.ref c] (I, τ) = some (oO (.inl (s_up (g_S C))), (I', τ')) ∧ PC I τ c Z B I' τ' C := by
  have h0 := h
  obtain ⟨g1, g2, g3, g4, g5, gx⟩ := h
  have c70 := g1.1
  have k12 := g1.2.1
  have e0 := g1.2.2.1
  have hl := g1.2.2.2.2.2.2.2.2.2.2.2.1
  have k8 := hl.2.1
  have lp := hl.2.2.2.2.2.1
  have lw := hl.2.2.2.2.2.2.1
  have lm := hl.2.2.2.2.2.2.2
  have w1 := g3.2.1.1
  have w2 := g3.2.1.2.1
  have w3 := g3.2.2.1.1
  have w4 := g3.2.2.1.2.1
  have wb := g3.1
  have n5 := g2.2.2.2.2.2.1
  refine ⟨I, τ, ?_, PC_rf h0⟩
  rw [c_174, b_174_0]
  simp (disch := omega) only [rd_I_mk, rd_R_mk, rd_L_mk, rd_D_mk, kd_mk, wr_I_mk, cp_mk, gd_true, bd_ret, bd_thr, vl_none, vl_some, iN_add, iN_mul, iN_sub, iN_lt, iN_eq, iN_n, iN_m1, iN_pred, vp_iN, K0_le, nr_b0, nr_b1, m1_lt, lt_m1, iN_ne_m1, m1_ne_iN, not_lt_z, true_and, and_true, and_self, or_true, true_or, or_false, false_or, if_true, if_false, ↓reduceIte, eq_self, up_at, up_a, up_k, cp_c, cp_b, Nat.zero_add, Nat.add_zero, Nat.sub_zero, Nat.le_refl, Nat.add_sub_cancel, fu_at, fu_ne, iN_nz, n10_f, n01_f, ofN, qq_at_100, k110b, Nat.lt_irrefl, Nat.not_lt_zero, ne_eq, not_false_eq_true, not_true_eq_false, k12, e0, k8, n5, oO]
theorem p_dismissed (h : R_C I τ c Z B C) : ∃ I' τ', CC (d + 40) 175 [.ref c] (I, τ) = some (oO (.inl (s_di (g_S C))), (I', τ')) ∧ PC I τ c Z B I' τ' C := by
  have h0 := h
  obtain ⟨g1, g2, g3, g4, g5, gx⟩ := h
  have c70 := g1.1
  have k12 := g1.2.1
  have e0 := g1.2.2.1
  have hl := g1.2.2.2.2.2.2.2.2.2.2.2.1
  have k8 := hl.2.1
  have lp := hl.2.2.2.2.2.1
  have lw := hl.2.2.2.2.2.2.1
  have lm := hl.2.2.2.2.2.2.2
  have w1 := g3.2.1.1
  have w2 := g3.2.1.2.1
  have w3 := g3.2.2.1.1
  have w4 := g3.2.2.1.2.1
  have wb := g3.1
  have n6 := g2.2.2.2.2.2.2.1
  refine ⟨I, τ, ?_, PC_rf h0⟩
  rw [c_175, b_175_0]
  simp (disch := omega) only [rd_I_mk, rd_R_mk, rd_L_mk, rd_D_mk, kd_mk, wr_I_mk, cp_mk, gd_true, bd_ret, bd_thr, vl_none, vl_some, iN_add, iN_mul, iN_sub, iN_lt, iN_eq, iN_n, iN_m1, iN_pred, vp_iN, K0_le, nr_b0, nr_b1, m1_lt, lt_m1, iN_ne_m1, m1_ne_iN, not_lt_z, true_and, and_true, and_self, or_true, true_or, or_false, false_or, if_true, if_false, ↓reduceIte, eq_self, up_at, up_a, up_k, cp_c, cp_b, Nat.zero_add, Nat.add_zero, Nat.sub_zero, Nat.le_refl, Nat.add_sub_cancel, fu_at, fu_ne, iN_nz, n10_f, n01_f, ofN, qq_at_100, k110b, Nat.lt_irrefl, Nat.not_lt_zero, ne_eq, not_false_eq_true, not_true_eq_false, k12, e0, k8, n6, oO]
theorem p_lapsed (h : R_C I τ c Z B C) : ∃ I' τ', CC (d + 40) 176 [.ref c] (I, τ) = some (oO (.inl (s_la (g_S C))), (I', τ')) ∧ PC I τ c Z B I' τ' C := by
  have h0 := h
  obtain ⟨g1, g2, g3, g4, g5, gx⟩ := h
  have c70 := g1.1
  have k12 := g1.2.1
  have e0 := g1.2.2.1
  have hl := g1.2.2.2.2.2.2.2.2.2.2.2.1
  have k8 := hl.2.1
  have lp := hl.2.2.2.2.2.1
  have lw := hl.2.2.2.2.2.2.1
  have lm := hl.2.2.2.2.2.2.2
  have w1 := g3.2.1.1
  have w2 := g3.2.1.2.1
  have w3 := g3.2.2.1.1
  have w4 := g3.2.2.1.2.1
  have wb := g3.1
  have n7 := g2.2.2.2.2.2.2.2
  refine ⟨I, τ, ?_, PC_rf h0⟩
  rw [c_176, b_176_0]
  simp (disch := omega) only [rd_I_mk, rd_R_mk, rd_L_mk, rd_D_mk, kd_mk, wr_I_mk, cp_mk, gd_true, bd_ret, bd_thr, vl_none, vl_some, iN_add, iN_mul, iN_sub, iN_lt, iN_eq, iN_n, iN_m1, iN_pred, vp_iN, K0_le, nr_b0, nr_b1, m1_lt, lt_m1, iN_ne_m1, m1_ne_iN, not_lt_z, true_and, and_true, and_self, or_true, true_or, or_false, false_or, if_true, if_false, ↓reduceIte, eq_self, up_at, up_a, up_k, cp_c, cp_b, Nat.zero_add, Nat.add_zero, Nat.sub_zero, Nat.le_refl, Nat.add_sub_cancel, fu_at, fu_ne, iN_nz, n10_f, n01_f, ofN, qq_at_100, k110b, Nat.lt_irrefl, Nat.not_lt_zero, ne_eq, not_false_eq_true, not_true_eq_false, k12, e0, k8, n7, oO]
theorem p_arrow (h : R_C I τ c Z B C) (x : Int32) : ∃ I' τ', CC (d + 40) 141 [.ref c, .int x] (I, τ) = some (oO (q_arrow (g_S C) x), (I', τ')) ∧ PC I τ c Z B I' τ' C := by
  have h0 := h
  obtain ⟨g1, g2, g3, g4, g5, gx⟩ := h
  have c70 := g1.1
  have k12 := g1.2.1
  have e0 := g1.2.2.1
  have hl := g1.2.2.2.2.2.2.2.2.2.2.2.1
  have k8 := hl.2.1
  have lp := hl.2.2.2.2.2.1
  have lw := hl.2.2.2.2.2.2.1
  have lm := hl.2.2.2.2.2.2.2
  have w1 := g3.2.1.1
  have w2 := g3.2.1.2.1
  have w3 := g3.2.2.1.1
  have w4 := g3.2.2.1.2.1
  have wb := g3.1
  have f0 := hl.2.2.1
  have k7 := lp.2.1
  have j1 := lp.2.2.1
  have i1 := lp.2.2.2.2.2.2.2.1
  have q := c_reqP (d := d + 38) h0 x
  unfold q_arrow
  cases hx : inN (p_np (s_P (g_S C))) x with
  | false =>
    rw [hx] at q
    simp only [Bool.false_eq_true, if_false] at q
    refine ⟨_, _, ?_, PC_nw h0⟩
    rw [c_141, b_141_0]
    simp (disch := omega) only [rd_I_mk, rd_R_mk, rd_L_mk, rd_D_mk, kd_mk, wr_I_mk, cp_mk, gd_true, bd_ret, bd_thr, vl_none, vl_some, iN_add, iN_mul, iN_sub, iN_lt, iN_eq, iN_n, iN_m1, iN_pred, vp_iN, K0_le, nr_b0, nr_b1, m1_lt, lt_m1, iN_ne_m1, m1_ne_iN, not_lt_z, true_and, and_true, and_self, or_true, true_or, or_false, false_or, if_true, if_false, ↓reduceIte, eq_self, up_at, up_a, up_k, cp_c, cp_b, Nat.zero_add, Nat.add_zero, Nat.sub_zero, Nat.le_refl, Nat.add_sub_cancel, fu_at, fu_ne, iN_nz, n10_f, n01_f, ofN, qq_at_100, k110b, Nat.lt_irrefl, Nat.not_lt_zero, ne_eq, not_false_eq_true, not_true_eq_false, k12, e0, k8, f0, k7, j1, i1, q, Bool.false_eq_true, oO]
  | true =>
    rw [hx, if_pos rfl] at q
    obtain ⟨k, hk, rfl⟩ := (inN_iff (by omega)).mp hx
    have r3 := g2.1.2.2.1 k hk
    rw [tn_iN (by omega)]
    refine ⟨I, τ, ?_, PC_rf h0⟩
    rw [c_141, b_141_0]
    simp (disch := omega) only [rd_I_mk, rd_R_mk, rd_L_mk, rd_D_mk, kd_mk, wr_I_mk, cp_mk, gd_true, bd_ret, bd_thr, vl_none, vl_some, iN_add, iN_mul, iN_sub, iN_lt, iN_eq, iN_n, iN_m1, iN_pred, vp_iN, K0_le, nr_b0, nr_b1, m1_lt, lt_m1, iN_ne_m1, m1_ne_iN, not_lt_z, true_and, and_true, and_self, or_true, true_or, or_false, false_or, if_true, if_false, ↓reduceIte, eq_self, up_at, up_a, up_k, cp_c, cp_b, Nat.zero_add, Nat.add_zero, Nat.sub_zero, Nat.le_refl, Nat.add_sub_cancel, fu_at, fu_ne, iN_nz, n10_f, n01_f, ofN, qq_at_100, k110b, Nat.lt_irrefl, Nat.not_lt_zero, ne_eq, not_false_eq_true, not_true_eq_false, k12, e0, k8, q, f0, k7, j1, i1, b_141_3, r3, oO]
theorem p_isFree (h : R_C I τ c Z B C) (x : Int32) : ∃ I' τ', CC (d + 40) 142 [.ref c, .int x] (I, τ) = some (oO (q_isFree (g_S C) x), (I', τ')) ∧ PC I τ c Z B I' τ' C := by
  have h0 := h
  obtain ⟨g1, g2, g3, g4, g5, gx⟩ := h
  have c70 := g1.1
  have k12 := g1.2.1
  have e0 := g1.2.2.1
  have hl := g1.2.2.2.2.2.2.2.2.2.2.2.1
  have k8 := hl.2.1
  have lp := hl.2.2.2.2.2.1
  have lw := hl.2.2.2.2.2.2.1
  have lm := hl.2.2.2.2.2.2.2
  have w1 := g3.2.1.1
  have w2 := g3.2.1.2.1
  have w3 := g3.2.2.1.1
  have w4 := g3.2.2.1.2.1
  have wb := g3.1
  have f0 := hl.2.2.1
  have k7 := lp.2.1
  have q := c_reqP (d := d + 38) h0 x
  unfold q_isFree
  cases hx : inN (p_np (s_P (g_S C))) x with
  | false =>
    rw [hx] at q
    simp only [Bool.false_eq_true, if_false] at q
    refine ⟨_, _, ?_, PC_nw h0⟩
    rw [c_142, b_142_0]
    simp (disch := omega) only [rd_I_mk, rd_R_mk, rd_L_mk, rd_D_mk, kd_mk, wr_I_mk, cp_mk, gd_true, bd_ret, bd_thr, vl_none, vl_some, iN_add, iN_mul, iN_sub, iN_lt, iN_eq, iN_n, iN_m1, iN_pred, vp_iN, K0_le, nr_b0, nr_b1, m1_lt, lt_m1, iN_ne_m1, m1_ne_iN, not_lt_z, true_and, and_true, and_self, or_true, true_or, or_false, false_or, if_true, if_false, ↓reduceIte, eq_self, up_at, up_a, up_k, cp_c, cp_b, Nat.zero_add, Nat.add_zero, Nat.sub_zero, Nat.le_refl, Nat.add_sub_cancel, fu_at, fu_ne, iN_nz, n10_f, n01_f, ofN, qq_at_100, k110b, Nat.lt_irrefl, Nat.not_lt_zero, ne_eq, not_false_eq_true, not_true_eq_false, k12, e0, k8, f0, k7, q, Bool.false_eq_true, oO]
  | true =>
    rw [hx, if_pos rfl] at q
    obtain ⟨k, hk, rfl⟩ := (inN_iff (by omega)).mp hx
    have q3 := c_standingOn (d := d + 39) (τ := τ) lp g2.1 g3.2.1 (x := k) (by omega)
    rw [tn_iN (by omega)]
    refine ⟨I, τ, ?_, PC_rf h0⟩
    cases ho : onP (s_P (g_S C)) k with
    | none =>
      rw [ho] at q3
      rw [c_142, b_142_0]
      simp (disch := omega) only [rd_I_mk, rd_R_mk, rd_L_mk, rd_D_mk, kd_mk, wr_I_mk, cp_mk, gd_true, bd_ret, bd_thr, vl_none, vl_some, iN_add, iN_mul, iN_sub, iN_lt, iN_eq, iN_n, iN_m1, iN_pred, vp_iN, K0_le, nr_b0, nr_b1, m1_lt, lt_m1, iN_ne_m1, m1_ne_iN, not_lt_z, true_and, and_true, and_self, or_true, true_or, or_false, false_or, if_true, if_false, ↓reduceIte, eq_self, up_at, up_a, up_k, cp_c, cp_b, Nat.zero_add, Nat.add_zero, Nat.sub_zero, Nat.le_refl, Nat.add_sub_cancel, fu_at, fu_ne, iN_nz, n10_f, n01_f, ofN, qq_at_100, k110b, Nat.lt_irrefl, Nat.not_lt_zero, ne_eq, not_false_eq_true, not_true_eq_false, k12, e0, k8, q, f0, k7, b_142_3, q3, b_142_8, oN, b_142_13, oO]
      rfl
    | some j =>
      rw [ho] at q3
      have hj := (ff_some _ _ _ ho).2.1
      rw [c_142, b_142_0]
      simp (disch := omega) only [rd_I_mk, rd_R_mk, rd_L_mk, rd_D_mk, kd_mk, wr_I_mk, cp_mk, gd_true, bd_ret, bd_thr, vl_none, vl_some, iN_add, iN_mul, iN_sub, iN_lt, iN_eq, iN_n, iN_m1, iN_pred, vp_iN, K0_le, nr_b0, nr_b1, m1_lt, lt_m1, iN_ne_m1, m1_ne_iN, not_lt_z, true_and, and_true, and_self, or_true, true_or, or_false, false_or, if_true, if_false, ↓reduceIte, eq_self, up_at, up_a, up_k, cp_c, cp_b, Nat.zero_add, Nat.add_zero, Nat.sub_zero, Nat.le_refl, Nat.add_sub_cancel, fu_at, fu_ne, iN_nz, n10_f, n01_f, ofN, qq_at_100, k110b, Nat.lt_irrefl, Nat.not_lt_zero, ne_eq, not_false_eq_true, not_true_eq_false, k12, e0, k8, q, f0, k7, b_142_3, q3, b_142_8, oN, b_142_13, oO]
      rfl
theorem p_statueOn (h : R_C I τ c Z B C) (x : Int32) : ∃ I' τ', CC (d + 40) 143 [.ref c, .int x] (I, τ) = some (oO (q_statueOn (g_S C) x), (I', τ')) ∧ PC I τ c Z B I' τ' C := by
  have h0 := h
  obtain ⟨g1, g2, g3, g4, g5, gx⟩ := h
  have c70 := g1.1
  have k12 := g1.2.1
  have e0 := g1.2.2.1
  have hl := g1.2.2.2.2.2.2.2.2.2.2.2.1
  have k8 := hl.2.1
  have lp := hl.2.2.2.2.2.1
  have lw := hl.2.2.2.2.2.2.1
  have lm := hl.2.2.2.2.2.2.2
  have w1 := g3.2.1.1
  have w2 := g3.2.1.2.1
  have w3 := g3.2.2.1.1
  have w4 := g3.2.2.1.2.1
  have wb := g3.1
  have f0 := hl.2.2.1
  have k7 := lp.2.1
  have q := c_reqP (d := d + 38) h0 x
  unfold q_statueOn
  cases hx : inN (p_np (s_P (g_S C))) x with
  | false =>
    rw [hx] at q
    simp only [Bool.false_eq_true, if_false] at q
    refine ⟨_, _, ?_, PC_nw h0⟩
    rw [c_143, b_143_0]
    simp (disch := omega) only [rd_I_mk, rd_R_mk, rd_L_mk, rd_D_mk, kd_mk, wr_I_mk, cp_mk, gd_true, bd_ret, bd_thr, vl_none, vl_some, iN_add, iN_mul, iN_sub, iN_lt, iN_eq, iN_n, iN_m1, iN_pred, vp_iN, K0_le, nr_b0, nr_b1, m1_lt, lt_m1, iN_ne_m1, m1_ne_iN, not_lt_z, true_and, and_true, and_self, or_true, true_or, or_false, false_or, if_true, if_false, ↓reduceIte, eq_self, up_at, up_a, up_k, cp_c, cp_b, Nat.zero_add, Nat.add_zero, Nat.sub_zero, Nat.le_refl, Nat.add_sub_cancel, fu_at, fu_ne, iN_nz, n10_f, n01_f, ofN, qq_at_100, k110b, Nat.lt_irrefl, Nat.not_lt_zero, ne_eq, not_false_eq_true, not_true_eq_false, k12, e0, k8, f0, k7, q, Bool.false_eq_true, oO]
  | true =>
    rw [hx, if_pos rfl] at q
    obtain ⟨k, hk, rfl⟩ := (inN_iff (by omega)).mp hx
    have q3 := c_standingOn (d := d + 39) (τ := τ) lp g2.1 g3.2.1 (x := k) (by omega)
    rw [tn_iN (by omega)]
    cases ho : onP (s_P (g_S C)) k with
    | none =>
      rw [ho] at q3
      have q4 : CC (d + 39) 197 [.int (oN none)] (I, τ) = some (.inr 3, (nwI τ I, nT τ (201, 0) 6)) := c_exO (o := none) (fun k hk => by cases hk)
      refine ⟨_, _, ?_, PC_nw h0⟩
      rw [c_143, b_143_0]
      simp (disch := omega) only [rd_I_mk, rd_R_mk, rd_L_mk, rd_D_mk, kd_mk, wr_I_mk, cp_mk, gd_true, bd_ret, bd_thr, vl_none, vl_some, iN_add, iN_mul, iN_sub, iN_lt, iN_eq, iN_n, iN_m1, iN_pred, vp_iN, K0_le, nr_b0, nr_b1, m1_lt, lt_m1, iN_ne_m1, m1_ne_iN, not_lt_z, true_and, and_true, and_self, or_true, true_or, or_false, false_or, if_true, if_false, ↓reduceIte, eq_self, up_at, up_a, up_k, cp_c, cp_b, Nat.zero_add, Nat.add_zero, Nat.sub_zero, Nat.le_refl, Nat.add_sub_cancel, fu_at, fu_ne, iN_nz, n10_f, n01_f, ofN, qq_at_100, k110b, Nat.lt_irrefl, Nat.not_lt_zero, ne_eq, not_false_eq_true, not_true_eq_false, k12, e0, k8, q, f0, k7, b_143_3, q3, b_143_8, q4, oO, qE]
    | some j =>
      rw [ho] at q3
      have hj := (ff_some _ _ _ ho).2.1
      have q4 : CC (d + 39) 197 [.int (oN (some j))] (I, τ) = some (.inl (some (.int (iN j))), (I, τ)) := c_exO (o := some j) (fun i hi => by cases hi; omega)
      refine ⟨I, τ, ?_, PC_rf h0⟩
      rw [c_143, b_143_0]
      simp (disch := omega) only [rd_I_mk, rd_R_mk, rd_L_mk, rd_D_mk, kd_mk, wr_I_mk, cp_mk, gd_true, bd_ret, bd_thr, vl_none, vl_some, iN_add, iN_mul, iN_sub, iN_lt, iN_eq, iN_n, iN_m1, iN_pred, vp_iN, K0_le, nr_b0, nr_b1, m1_lt, lt_m1, iN_ne_m1, m1_ne_iN, not_lt_z, true_and, and_true, and_self, or_true, true_or, or_false, false_or, if_true, if_false, ↓reduceIte, eq_self, up_at, up_a, up_k, cp_c, cp_b, Nat.zero_add, Nat.add_zero, Nat.sub_zero, Nat.le_refl, Nat.add_sub_cancel, fu_at, fu_ne, iN_nz, n10_f, n01_f, ofN, qq_at_100, k110b, Nat.lt_irrefl, Nat.not_lt_zero, ne_eq, not_false_eq_true, not_true_eq_false, k12, e0, k8, q, f0, k7, b_143_3, q3, b_143_8, q4, b_143_9, oO, qE]
theorem p_arrowAfter (h : R_C I τ c Z B C) (x n : Int32) : ∃ I' τ', CC (d + 40) 144 [.ref c, .int x, .int n] (I, τ) = some (oO (q_after (g_S C) x n), (I', τ')) ∧ PC I τ c Z B I' τ' C := by
  have h0 := h
  obtain ⟨g1, g2, g3, g4, g5, gx⟩ := h
  have c70 := g1.1
  have k12 := g1.2.1
  have e0 := g1.2.2.1
  have hl := g1.2.2.2.2.2.2.2.2.2.2.2.1
  have k8 := hl.2.1
  have lp := hl.2.2.2.2.2.1
  have lw := hl.2.2.2.2.2.2.1
  have lm := hl.2.2.2.2.2.2.2
  have w1 := g3.2.1.1
  have w2 := g3.2.1.2.1
  have w3 := g3.2.2.1.1
  have w4 := g3.2.2.1.2.1
  have wb := g3.1
  have f0 := hl.2.2.1
  have k7 := lp.2.1
  have q := c_reqP (d := d + 38) h0 x
  unfold q_after
  cases hx : inN (p_np (s_P (g_S C))) x with
  | false =>
    rw [hx] at q
    simp only [Bool.false_eq_true, if_false] at q
    refine ⟨_, _, ?_, PC_nw h0⟩
    rw [c_144, b_144_0]
    simp (disch := omega) only [rd_I_mk, rd_R_mk, rd_L_mk, rd_D_mk, kd_mk, wr_I_mk, cp_mk, gd_true, bd_ret, bd_thr, vl_none, vl_some, iN_add, iN_mul, iN_sub, iN_lt, iN_eq, iN_n, iN_m1, iN_pred, vp_iN, K0_le, nr_b0, nr_b1, m1_lt, lt_m1, iN_ne_m1, m1_ne_iN, not_lt_z, true_and, and_true, and_self, or_true, true_or, or_false, false_or, if_true, if_false, ↓reduceIte, eq_self, up_at, up_a, up_k, cp_c, cp_b, Nat.zero_add, Nat.add_zero, Nat.sub_zero, Nat.le_refl, Nat.add_sub_cancel, fu_at, fu_ne, iN_nz, n10_f, n01_f, ofN, qq_at_100, k110b, Nat.lt_irrefl, Nat.not_lt_zero, ne_eq, not_false_eq_true, not_true_eq_false, k12, e0, k8, f0, k7, q, Bool.false_eq_true, oO]
  | true =>
    rw [hx, if_pos rfl] at q
    obtain ⟨k, hk, rfl⟩ := (inN_iff (by omega)).mp hx
    rw [tn_iN (by omega)]
    have q5 := c_reqB (d := d + 38) (I := I) (τ := τ) (lo := 0) (hi := 9999) n
    cases hn : inB 0 9999 n with
    | false =>
      rw [hn] at q5
      simp only [Bool.false_eq_true, if_false] at q5
      refine ⟨_, _, ?_, PC_nw h0⟩
      rw [c_144, b_144_0]
      simp (disch := omega) only [rd_I_mk, rd_R_mk, rd_L_mk, rd_D_mk, kd_mk, wr_I_mk, cp_mk, gd_true, bd_ret, bd_thr, vl_none, vl_some, iN_add, iN_mul, iN_sub, iN_lt, iN_eq, iN_n, iN_m1, iN_pred, vp_iN, K0_le, nr_b0, nr_b1, m1_lt, lt_m1, iN_ne_m1, m1_ne_iN, not_lt_z, true_and, and_true, and_self, or_true, true_or, or_false, false_or, if_true, if_false, ↓reduceIte, eq_self, up_at, up_a, up_k, cp_c, cp_b, Nat.zero_add, Nat.add_zero, Nat.sub_zero, Nat.le_refl, Nat.add_sub_cancel, fu_at, fu_ne, iN_nz, n10_f, n01_f, ofN, qq_at_100, k110b, Nat.lt_irrefl, Nat.not_lt_zero, ne_eq, not_false_eq_true, not_true_eq_false, k12, e0, k8, q, b_144_3, q5, Bool.false_eq_true, oO]
    | true =>
      rw [hn, if_pos rfl] at q5
      obtain ⟨j, -, hj, rfl⟩ := (inB_iff (by omega) (by omega)).mp hn
      rw [tn_iN (by omega)]
      have q6 := c_followArrows (d := d + 39) (τ := τ) lp g2.1 g3.2.1 hk (n := j) (by omega)
      refine ⟨I, τ, ?_, PC_rf h0⟩
      rw [c_144, b_144_0]
      simp (disch := omega) only [rd_I_mk, rd_R_mk, rd_L_mk, rd_D_mk, kd_mk, wr_I_mk, cp_mk, gd_true, bd_ret, bd_thr, vl_none, vl_some, iN_add, iN_mul, iN_sub, iN_lt, iN_eq, iN_n, iN_m1, iN_pred, vp_iN, K0_le, nr_b0, nr_b1, m1_lt, lt_m1, iN_ne_m1, m1_ne_iN, not_lt_z, true_and, and_true, and_self, or_true, true_or, or_false, false_or, if_true, if_false, ↓reduceIte, eq_self, up_at, up_a, up_k, cp_c, cp_b, Nat.zero_add, Nat.add_zero, Nat.sub_zero, Nat.le_refl, Nat.add_sub_cancel, fu_at, fu_ne, iN_nz, n10_f, n01_f, ofN, qq_at_100, k110b, Nat.lt_irrefl, Nat.not_lt_zero, ne_eq, not_false_eq_true, not_true_eq_false, k12, e0, k8, q, b_144_3, q5, b_144_7, f0, k7, q6, b_144_13, oO]
theorem p_byDoubling (h : R_C I τ c Z B C) (x n : Int32) : ∃ I' τ', CC (d + 40) 145 [.ref c, .int x, .int n] (I, τ) = some (oO (q_after (g_S C) x n), (I', τ')) ∧ PC I τ c Z B I' τ' C := by
  have h0 := h
  obtain ⟨g1, g2, g3, g4, g5, gx⟩ := h
  have c70 := g1.1
  have k12 := g1.2.1
  have e0 := g1.2.2.1
  have hl := g1.2.2.2.2.2.2.2.2.2.2.2.1
  have k8 := hl.2.1
  have lp := hl.2.2.2.2.2.1
  have lw := hl.2.2.2.2.2.2.1
  have lm := hl.2.2.2.2.2.2.2
  have w1 := g3.2.1.1
  have w2 := g3.2.1.2.1
  have w3 := g3.2.2.1.1
  have w4 := g3.2.2.1.2.1
  have wb := g3.1
  have hL5 := g1.2.2.2.2.2.2.2.2.2.2.2.2.2.2.2.1
  have f0 := hl.2.2.1
  have k7 := lp.2.1
  have e5 := g1.2.2.2.2.2.2.1
  have k5 := hL5.2.1
  have q := c_reqP (d := d + 38) h0 x
  unfold q_after
  cases hx : inN (p_np (s_P (g_S C))) x with
  | false =>
    rw [hx] at q
    simp only [Bool.false_eq_true, if_false] at q
    refine ⟨_, _, ?_, PC_nw h0⟩
    rw [c_145, b_145_0]
    simp (disch := omega) only [rd_I_mk, rd_R_mk, rd_L_mk, rd_D_mk, kd_mk, wr_I_mk, cp_mk, gd_true, bd_ret, bd_thr, vl_none, vl_some, iN_add, iN_mul, iN_sub, iN_lt, iN_eq, iN_n, iN_m1, iN_pred, vp_iN, K0_le, nr_b0, nr_b1, m1_lt, lt_m1, iN_ne_m1, m1_ne_iN, not_lt_z, true_and, and_true, and_self, or_true, true_or, or_false, false_or, if_true, if_false, ↓reduceIte, eq_self, up_at, up_a, up_k, cp_c, cp_b, Nat.zero_add, Nat.add_zero, Nat.sub_zero, Nat.le_refl, Nat.add_sub_cancel, fu_at, fu_ne, iN_nz, n10_f, n01_f, ofN, qq_at_100, k110b, Nat.lt_irrefl, Nat.not_lt_zero, ne_eq, not_false_eq_true, not_true_eq_false, k12, e0, k8, f0, k7, e5, k5, q, Bool.false_eq_true, oO]
  | true =>
    rw [hx, if_pos rfl] at q
    obtain ⟨k, hk, rfl⟩ := (inN_iff (by omega)).mp hx
    rw [tn_iN (by omega)]
    have q5 := c_reqB (d := d + 38) (I := I) (τ := τ) (lo := 0) (hi := 9999) n
    cases hn : inB 0 9999 n with
    | false =>
      rw [hn] at q5
      simp only [Bool.false_eq_true, if_false] at q5
      refine ⟨_, _, ?_, PC_nw h0⟩
      rw [c_145, b_145_0]
      simp (disch := omega) only [rd_I_mk, rd_R_mk, rd_L_mk, rd_D_mk, kd_mk, wr_I_mk, cp_mk, gd_true, bd_ret, bd_thr, vl_none, vl_some, iN_add, iN_mul, iN_sub, iN_lt, iN_eq, iN_n, iN_m1, iN_pred, vp_iN, K0_le, nr_b0, nr_b1, m1_lt, lt_m1, iN_ne_m1, m1_ne_iN, not_lt_z, true_and, and_true, and_self, or_true, true_or, or_false, false_or, if_true, if_false, ↓reduceIte, eq_self, up_at, up_a, up_k, cp_c, cp_b, Nat.zero_add, Nat.add_zero, Nat.sub_zero, Nat.le_refl, Nat.add_sub_cancel, fu_at, fu_ne, iN_nz, n10_f, n01_f, ofN, qq_at_100, k110b, Nat.lt_irrefl, Nat.not_lt_zero, ne_eq, not_false_eq_true, not_true_eq_false, k12, e0, k8, q, b_145_3, q5, Bool.false_eq_true, oO]
    | true =>
      rw [hn, if_pos rfl] at q5
      obtain ⟨j, -, hj, rfl⟩ := (inB_iff (by omega) (by omega)).mp hn
      rw [tn_iN (by omega)]
      obtain ⟨J, q6, q7⟩ := c_leaps (d := d + 38) (τ := τ) hL5 lp g2.1 g3.2.1 (Or.inl (by omega)) hk (n := j) (by omega)
      refine ⟨J, τ, ?_, PC_fr h0 (fun a _ ha => q7 a (by omega)) Lq_rf⟩
      rw [c_145, b_145_0]
      simp (disch := omega) only [rd_I_mk, rd_R_mk, rd_L_mk, rd_D_mk, kd_mk, wr_I_mk, cp_mk, gd_true, bd_ret, bd_thr, vl_none, vl_some, iN_add, iN_mul, iN_sub, iN_lt, iN_eq, iN_n, iN_m1, iN_pred, vp_iN, K0_le, nr_b0, nr_b1, m1_lt, lt_m1, iN_ne_m1, m1_ne_iN, not_lt_z, true_and, and_true, and_self, or_true, true_or, or_false, false_or, if_true, if_false, ↓reduceIte, eq_self, up_at, up_a, up_k, cp_c, cp_b, Nat.zero_add, Nat.add_zero, Nat.sub_zero, Nat.le_refl, Nat.add_sub_cancel, fu_at, fu_ne, iN_nz, n10_f, n01_f, ofN, qq_at_100, k110b, Nat.lt_irrefl, Nat.not_lt_zero, ne_eq, not_false_eq_true, not_true_eq_false, k12, e0, e5, k5, k8, q, b_145_3, q5, b_145_7, f0, q6, b_145_15, oO]
theorem p_round (h : R_C I τ c Z B C) (x : Int32) : ∃ I' τ', CC (d + 40) 146 [.ref c, .int x] (I, τ) = some (oO (q_round (g_S C) x), (I', τ')) ∧ PC I τ c Z B I' τ' C := by
  have h0 := h
  obtain ⟨g1, g2, g3, g4, g5, gx⟩ := h
  have c70 := g1.1
  have k12 := g1.2.1
  have e0 := g1.2.2.1
  have hl := g1.2.2.2.2.2.2.2.2.2.2.2.1
  have k8 := hl.2.1
  have lp := hl.2.2.2.2.2.1
  have lw := hl.2.2.2.2.2.2.1
  have lm := hl.2.2.2.2.2.2.2
  have w1 := g3.2.1.1
  have w2 := g3.2.1.2.1
  have w3 := g3.2.2.1.1
  have w4 := g3.2.2.1.2.1
  have wb := g3.1
  have f0 := hl.2.2.1
  have k7 := lp.2.1
  have q := c_reqP (d := d + 38) h0 x
  unfold q_round
  cases hx : inN (p_np (s_P (g_S C))) x with
  | false =>
    rw [hx] at q
    simp only [Bool.false_eq_true, if_false] at q
    refine ⟨_, _, ?_, PC_nw h0⟩
    rw [c_146, b_146_0]
    simp (disch := omega) only [rd_I_mk, rd_R_mk, rd_L_mk, rd_D_mk, kd_mk, wr_I_mk, cp_mk, gd_true, bd_ret, bd_thr, vl_none, vl_some, iN_add, iN_mul, iN_sub, iN_lt, iN_eq, iN_n, iN_m1, iN_pred, vp_iN, K0_le, nr_b0, nr_b1, m1_lt, lt_m1, iN_ne_m1, m1_ne_iN, not_lt_z, true_and, and_true, and_self, or_true, true_or, or_false, false_or, if_true, if_false, ↓reduceIte, eq_self, up_at, up_a, up_k, cp_c, cp_b, Nat.zero_add, Nat.add_zero, Nat.sub_zero, Nat.le_refl, Nat.add_sub_cancel, fu_at, fu_ne, iN_nz, n10_f, n01_f, ofN, qq_at_100, k110b, Nat.lt_irrefl, Nat.not_lt_zero, ne_eq, not_false_eq_true, not_true_eq_false, k12, e0, k8, f0, k7, q, Bool.false_eq_true, oO]
  | true =>
    rw [hx, if_pos rfl] at q
    obtain ⟨k, hk, rfl⟩ := (inN_iff (by omega)).mp hx
    obtain ⟨l1, l2, l3, l4⟩ := rlen_ok g3.2.1 hk
    have q6 := c_lengthOfRound (d := d + 38) (τ := τ) lp g2.1 g3.2.1 hk l1 l2 l3 l4
    rw [tn_iN (by omega)]
    refine ⟨I, τ, ?_, PC_rf h0⟩
    rw [c_146, b_146_0]
    simp (disch := omega) only [rd_I_mk, rd_R_mk, rd_L_mk, rd_D_mk, kd_mk, wr_I_mk, cp_mk, gd_true, bd_ret, bd_thr, vl_none, vl_some, iN_add, iN_mul, iN_sub, iN_lt, iN_eq, iN_n, iN_m1, iN_pred, vp_iN, K0_le, nr_b0, nr_b1, m1_lt, lt_m1, iN_ne_m1, m1_ne_iN, not_lt_z, true_and, and_true, and_self, or_true, true_or, or_false, false_or, if_true, if_false, ↓reduceIte, eq_self, up_at, up_a, up_k, cp_c, cp_b, Nat.zero_add, Nat.add_zero, Nat.sub_zero, Nat.le_refl, Nat.add_sub_cancel, fu_at, fu_ne, iN_nz, n10_f, n01_f, ofN, qq_at_100, k110b, Nat.lt_irrefl, Nat.not_lt_zero, ne_eq, not_false_eq_true, not_true_eq_false, k12, e0, k8, q, f0, k7, b_146_3, q6, b_146_8, oO]
theorem p_place (h : R_C I τ c Z B C) (x : Int32) : ∃ I' τ', CC (d + 40) 148 [.ref c, .int x] (I, τ) = some (oO (q_sta (fun k => iN (p_pl (s_P (g_S C)) k)) (g_S C) x), (I', τ')) ∧ PC I τ c Z B I' τ' C := by
  have h0 := h
  obtain ⟨g1, g2, g3, g4, g5, gx⟩ := h
  have c70 := g1.1
  have k12 := g1.2.1
  have e0 := g1.2.2.1
  have hl := g1.2.2.2.2.2.2.2.2.2.2.2.1
  have k8 := hl.2.1
  have lp := hl.2.2.2.2.2.1
  have lw := hl.2.2.2.2.2.2.1
  have lm := hl.2.2.2.2.2.2.2
  have w1 := g3.2.1.1
  have w2 := g3.2.1.2.1
  have w3 := g3.2.2.1.1
  have w4 := g3.2.2.1.2.1
  have wb := g3.1
  have f0 := hl.2.2.1
  have k7 := lp.2.1
  have j4 := lp.2.2.2.2.1
  have i3 := lp.2.2.2.2.2.2.2.2.2.1
  have q := c_reqS (d := d + 38) h0 x
  unfold q_sta
  cases hx : inN (p_ns (s_P (g_S C))) x with
  | false =>
    rw [hx] at q
    simp only [Bool.false_eq_true, if_false] at q
    refine ⟨_, _, ?_, PC_nw h0⟩
    rw [c_148, b_148_0]
    simp (disch := omega) only [rd_I_mk, rd_R_mk, rd_L_mk, rd_D_mk, kd_mk, wr_I_mk, cp_mk, gd_true, bd_ret, bd_thr, vl_none, vl_some, iN_add, iN_mul, iN_sub, iN_lt, iN_eq, iN_n, iN_m1, iN_pred, vp_iN, K0_le, nr_b0, nr_b1, m1_lt, lt_m1, iN_ne_m1, m1_ne_iN, not_lt_z, true_and, and_true, and_self, or_true, true_or, or_false, false_or, if_true, if_false, ↓reduceIte, eq_self, up_at, up_a, up_k, cp_c, cp_b, Nat.zero_add, Nat.add_zero, Nat.sub_zero, Nat.le_refl, Nat.add_sub_cancel, fu_at, fu_ne, iN_nz, n10_f, n01_f, ofN, qq_at_100, k110b, Nat.lt_irrefl, Nat.not_lt_zero, ne_eq, not_false_eq_true, not_true_eq_false, k12, e0, k8, f0, k7, j4, i3, q, Bool.false_eq_true, oO]
  | true =>
    rw [hx, if_pos rfl] at q
    obtain ⟨k, hk, rfl⟩ := (inN_iff (by omega)).mp hx
    have r3 := g2.1.2.2.2.2.1 k hk
    rw [tn_iN (by omega)]
    refine ⟨I, τ, ?_, PC_rf h0⟩
    rw [c_148, b_148_0]
    simp (disch := omega) only [rd_I_mk, rd_R_mk, rd_L_mk, rd_D_mk, kd_mk, wr_I_mk, cp_mk, gd_true, bd_ret, bd_thr, vl_none, vl_some, iN_add, iN_mul, iN_sub, iN_lt, iN_eq, iN_n, iN_m1, iN_pred, vp_iN, K0_le, nr_b0, nr_b1, m1_lt, lt_m1, iN_ne_m1, m1_ne_iN, not_lt_z, true_and, and_true, and_self, or_true, true_or, or_false, false_or, if_true, if_false, ↓reduceIte, eq_self, up_at, up_a, up_k, cp_c, cp_b, Nat.zero_add, Nat.add_zero, Nat.sub_zero, Nat.le_refl, Nat.add_sub_cancel, fu_at, fu_ne, iN_nz, n10_f, n01_f, ofN, qq_at_100, k110b, Nat.lt_irrefl, Nat.not_lt_zero, ne_eq, not_false_eq_true, not_true_eq_false, k12, e0, k8, q, f0, k7, j4, i3, b_148_3, r3, oO]
theorem p_home (h : R_C I τ c Z B C) (x : Int32) : ∃ I' τ', CC (d + 40) 149 [.ref c, .int x] (I, τ) = some (oO (q_sta (fun k => iN (p_ho (s_P (g_S C)) k)) (g_S C) x), (I', τ')) ∧ PC I τ c Z B I' τ' C := by
  have h0 := h
  obtain ⟨g1, g2, g3, g4, g5, gx⟩ := h
  have c70 := g1.1
  have k12 := g1.2.1
  have e0 := g1.2.2.1
  have hl := g1.2.2.2.2.2.2.2.2.2.2.2.1
  have k8 := hl.2.1
  have lp := hl.2.2.2.2.2.1
  have lw := hl.2.2.2.2.2.2.1
  have lm := hl.2.2.2.2.2.2.2
  have w1 := g3.2.1.1
  have w2 := g3.2.1.2.1
  have w3 := g3.2.2.1.1
  have w4 := g3.2.2.1.2.1
  have wb := g3.1
  have f0 := hl.2.2.1
  have k7 := lp.2.1
  have j5 := lp.2.2.2.2.2.1
  have i4 := lp.2.2.2.2.2.2.2.2.2.2.1
  have q := c_reqS (d := d + 38) h0 x
  unfold q_sta
  cases hx : inN (p_ns (s_P (g_S C))) x with
  | false =>
    rw [hx] at q
    simp only [Bool.false_eq_true, if_false] at q
    refine ⟨_, _, ?_, PC_nw h0⟩
    rw [c_149, b_149_0]
    simp (disch := omega) only [rd_I_mk, rd_R_mk, rd_L_mk, rd_D_mk, kd_mk, wr_I_mk, cp_mk, gd_true, bd_ret, bd_thr, vl_none, vl_some, iN_add, iN_mul, iN_sub, iN_lt, iN_eq, iN_n, iN_m1, iN_pred, vp_iN, K0_le, nr_b0, nr_b1, m1_lt, lt_m1, iN_ne_m1, m1_ne_iN, not_lt_z, true_and, and_true, and_self, or_true, true_or, or_false, false_or, if_true, if_false, ↓reduceIte, eq_self, up_at, up_a, up_k, cp_c, cp_b, Nat.zero_add, Nat.add_zero, Nat.sub_zero, Nat.le_refl, Nat.add_sub_cancel, fu_at, fu_ne, iN_nz, n10_f, n01_f, ofN, qq_at_100, k110b, Nat.lt_irrefl, Nat.not_lt_zero, ne_eq, not_false_eq_true, not_true_eq_false, k12, e0, k8, f0, k7, j5, i4, q, Bool.false_eq_true, oO]
  | true =>
    rw [hx, if_pos rfl] at q
    obtain ⟨k, hk, rfl⟩ := (inN_iff (by omega)).mp hx
    have r3 := g2.1.2.2.2.2.2.1 k hk
    rw [tn_iN (by omega)]
    refine ⟨I, τ, ?_, PC_rf h0⟩
    rw [c_149, b_149_0]
    simp (disch := omega) only [rd_I_mk, rd_R_mk, rd_L_mk, rd_D_mk, kd_mk, wr_I_mk, cp_mk, gd_true, bd_ret, bd_thr, vl_none, vl_some, iN_add, iN_mul, iN_sub, iN_lt, iN_eq, iN_n, iN_m1, iN_pred, vp_iN, K0_le, nr_b0, nr_b1, m1_lt, lt_m1, iN_ne_m1, m1_ne_iN, not_lt_z, true_and, and_true, and_self, or_true, true_or, or_false, false_or, if_true, if_false, ↓reduceIte, eq_self, up_at, up_a, up_k, cp_c, cp_b, Nat.zero_add, Nat.add_zero, Nat.sub_zero, Nat.le_refl, Nat.add_sub_cancel, fu_at, fu_ne, iN_nz, n10_f, n01_f, ofN, qq_at_100, k110b, Nat.lt_irrefl, Nat.not_lt_zero, ne_eq, not_false_eq_true, not_true_eq_false, k12, e0, k8, q, f0, k7, j5, i4, b_149_3, r3, oO]
theorem p_weight (h : R_C I τ c Z B C) (x : Int32) : ∃ I' τ', CC (d + 40) 150 [.ref c, .int x] (I, τ) = some (oO (q_sta (fun k => iN (p_we (s_P (g_S C)) k)) (g_S C) x), (I', τ')) ∧ PC I τ c Z B I' τ' C := by
  have h0 := h
  obtain ⟨g1, g2, g3, g4, g5, gx⟩ := h
  have c70 := g1.1
  have k12 := g1.2.1
  have e0 := g1.2.2.1
  have hl := g1.2.2.2.2.2.2.2.2.2.2.2.1
  have k8 := hl.2.1
  have lp := hl.2.2.2.2.2.1
  have lw := hl.2.2.2.2.2.2.1
  have lm := hl.2.2.2.2.2.2.2
  have w1 := g3.2.1.1
  have w2 := g3.2.1.2.1
  have w3 := g3.2.2.1.1
  have w4 := g3.2.2.1.2.1
  have wb := g3.1
  have f0 := hl.2.2.1
  have k7 := lp.2.1
  have j3 := lp.2.2.2.1
  have i2 := lp.2.2.2.2.2.2.2.2.1
  have q := c_reqS (d := d + 38) h0 x
  unfold q_sta
  cases hx : inN (p_ns (s_P (g_S C))) x with
  | false =>
    rw [hx] at q
    simp only [Bool.false_eq_true, if_false] at q
    refine ⟨_, _, ?_, PC_nw h0⟩
    rw [c_150, b_150_0]
    simp (disch := omega) only [rd_I_mk, rd_R_mk, rd_L_mk, rd_D_mk, kd_mk, wr_I_mk, cp_mk, gd_true, bd_ret, bd_thr, vl_none, vl_some, iN_add, iN_mul, iN_sub, iN_lt, iN_eq, iN_n, iN_m1, iN_pred, vp_iN, K0_le, nr_b0, nr_b1, m1_lt, lt_m1, iN_ne_m1, m1_ne_iN, not_lt_z, true_and, and_true, and_self, or_true, true_or, or_false, false_or, if_true, if_false, ↓reduceIte, eq_self, up_at, up_a, up_k, cp_c, cp_b, Nat.zero_add, Nat.add_zero, Nat.sub_zero, Nat.le_refl, Nat.add_sub_cancel, fu_at, fu_ne, iN_nz, n10_f, n01_f, ofN, qq_at_100, k110b, Nat.lt_irrefl, Nat.not_lt_zero, ne_eq, not_false_eq_true, not_true_eq_false, k12, e0, k8, f0, k7, j3, i2, q, Bool.false_eq_true, oO]
  | true =>
    rw [hx, if_pos rfl] at q
    obtain ⟨k, hk, rfl⟩ := (inN_iff (by omega)).mp hx
    have r3 := g2.1.2.2.2.1 k hk
    rw [tn_iN (by omega)]
    refine ⟨I, τ, ?_, PC_rf h0⟩
    rw [c_150, b_150_0]
    simp (disch := omega) only [rd_I_mk, rd_R_mk, rd_L_mk, rd_D_mk, kd_mk, wr_I_mk, cp_mk, gd_true, bd_ret, bd_thr, vl_none, vl_some, iN_add, iN_mul, iN_sub, iN_lt, iN_eq, iN_n, iN_m1, iN_pred, vp_iN, K0_le, nr_b0, nr_b1, m1_lt, lt_m1, iN_ne_m1, m1_ne_iN, not_lt_z, true_and, and_true, and_self, or_true, true_or, or_false, false_or, if_true, if_false, ↓reduceIte, eq_self, up_at, up_a, up_k, cp_c, cp_b, Nat.zero_add, Nat.add_zero, Nat.sub_zero, Nat.le_refl, Nat.add_sub_cancel, fu_at, fu_ne, iN_nz, n10_f, n01_f, ofN, qq_at_100, k110b, Nat.lt_irrefl, Nat.not_lt_zero, ne_eq, not_false_eq_true, not_true_eq_false, k12, e0, k8, q, f0, k7, j3, i2, b_150_3, r3, oO]
theorem p_isBound (h : R_C I τ c Z B C) (x : Int32) : ∃ I' τ', CC (d + 40) 151 [.ref c, .int x] (I, τ) = some (oO (q_sta (fun k => b01 (bU (s_U (g_S C)) k)) (g_S C) x), (I', τ')) ∧ PC I τ c Z B I' τ' C := by
  have h0 := h
  obtain ⟨g1, g2, g3, g4, g5, gx⟩ := h
  have c70 := g1.1
  have k12 := g1.2.1
  have e0 := g1.2.2.1
  have hl := g1.2.2.2.2.2.2.2.2.2.2.2.1
  have k8 := hl.2.1
  have lp := hl.2.2.2.2.2.1
  have lw := hl.2.2.2.2.2.2.1
  have lm := hl.2.2.2.2.2.2.2
  have w1 := g3.2.1.1
  have w2 := g3.2.1.2.1
  have w3 := g3.2.2.1.1
  have w4 := g3.2.2.1.2.1
  have wb := g3.1
  have f1 := hl.2.2.2.1
  have kW := lw.2.1
  have q := c_reqS (d := d + 38) h0 x
  unfold q_sta
  cases hx : inN (p_ns (s_P (g_S C))) x with
  | false =>
    rw [hx] at q
    simp only [Bool.false_eq_true, if_false] at q
    refine ⟨_, _, ?_, PC_nw h0⟩
    rw [c_151, b_151_0]
    simp (disch := omega) only [rd_I_mk, rd_R_mk, rd_L_mk, rd_D_mk, kd_mk, wr_I_mk, cp_mk, gd_true, bd_ret, bd_thr, vl_none, vl_some, iN_add, iN_mul, iN_sub, iN_lt, iN_eq, iN_n, iN_m1, iN_pred, vp_iN, K0_le, nr_b0, nr_b1, m1_lt, lt_m1, iN_ne_m1, m1_ne_iN, not_lt_z, true_and, and_true, and_self, or_true, true_or, or_false, false_or, if_true, if_false, ↓reduceIte, eq_self, up_at, up_a, up_k, cp_c, cp_b, Nat.zero_add, Nat.add_zero, Nat.sub_zero, Nat.le_refl, Nat.add_sub_cancel, fu_at, fu_ne, iN_nz, n10_f, n01_f, ofN, qq_at_100, k110b, Nat.lt_irrefl, Nat.not_lt_zero, ne_eq, not_false_eq_true, not_true_eq_false, k12, e0, k8, f1, kW, q, Bool.false_eq_true, oO]
  | true =>
    rw [hx, if_pos rfl] at q
    obtain ⟨k, hk, rfl⟩ := (inN_iff (by omega)).mp hx
    have q6 := c_bind (d := d + 39) (τ := τ) lw g2.2.1 g3.2.2.1 (x := k) (by omega)
    rw [tn_iN (by omega)]
    refine ⟨I, τ, ?_, PC_rf h0⟩
    cases hb : bU (s_U (g_S C)) k with
    | false =>
      rw [hb] at q6
      rw [c_151, b_151_0]
      simp (disch := omega) only [rd_I_mk, rd_R_mk, rd_L_mk, rd_D_mk, kd_mk, wr_I_mk, cp_mk, gd_true, bd_ret, bd_thr, vl_none, vl_some, iN_add, iN_mul, iN_sub, iN_lt, iN_eq, iN_n, iN_m1, iN_pred, vp_iN, K0_le, nr_b0, nr_b1, m1_lt, lt_m1, iN_ne_m1, m1_ne_iN, not_lt_z, true_and, and_true, and_self, or_true, true_or, or_false, false_or, if_true, if_false, ↓reduceIte, eq_self, up_at, up_a, up_k, cp_c, cp_b, Nat.zero_add, Nat.add_zero, Nat.sub_zero, Nat.le_refl, Nat.add_sub_cancel, fu_at, fu_ne, iN_nz, n10_f, n01_f, ofN, qq_at_100, k110b, Nat.lt_irrefl, Nat.not_lt_zero, ne_eq, not_false_eq_true, not_true_eq_false, k12, e0, k8, q, f1, kW, b_151_3, q6, b_151_8, oO, Bool.false_eq_true, hb]
      rfl
    | true =>
      rw [hb] at q6
      rw [c_151, b_151_0]
      simp (disch := omega) only [rd_I_mk, rd_R_mk, rd_L_mk, rd_D_mk, kd_mk, wr_I_mk, cp_mk, gd_true, bd_ret, bd_thr, vl_none, vl_some, iN_add, iN_mul, iN_sub, iN_lt, iN_eq, iN_n, iN_m1, iN_pred, vp_iN, K0_le, nr_b0, nr_b1, m1_lt, lt_m1, iN_ne_m1, m1_ne_iN, not_lt_z, true_and, and_true, and_self, or_true, true_or, or_false, false_or, if_true, if_false, ↓reduceIte, eq_self, up_at, up_a, up_k, cp_c, cp_b, Nat.zero_add, Nat.add_zero, Nat.sub_zero, Nat.le_refl, Nat.add_sub_cancel, fu_at, fu_ne, iN_nz, n10_f, n01_f, ofN, qq_at_100, k110b, Nat.lt_irrefl, Nat.not_lt_zero, ne_eq, not_false_eq_true, not_true_eq_false, k12, e0, k8, q, f1, kW, b_151_3, q6, b_151_8, oO, hb]
      rfl
theorem p_isHome (h : R_C I τ c Z B C) (x : Int32) : ∃ I' τ', CC (d + 40) 152 [.ref c, .int x] (I, τ) = some (oO (q_sta (fun k => b01 (hmB (g_S C) k)) (g_S C) x), (I', τ')) ∧ PC I τ c Z B I' τ' C := by
  have h0 := h
  obtain ⟨g1, g2, g3, g4, g5, gx⟩ := h
  have c70 := g1.1
  have k12 := g1.2.1
  have e0 := g1.2.2.1
  have hl := g1.2.2.2.2.2.2.2.2.2.2.2.1
  have k8 := hl.2.1
  have lp := hl.2.2.2.2.2.1
  have lw := hl.2.2.2.2.2.2.1
  have lm := hl.2.2.2.2.2.2.2
  have w1 := g3.2.1.1
  have w2 := g3.2.1.2.1
  have w3 := g3.2.2.1.1
  have w4 := g3.2.2.1.2.1
  have wb := g3.1
  have f0 := hl.2.2.1
  have k7 := lp.2.1
  have q := c_reqS (d := d + 38) h0 x
  unfold q_sta
  cases hx : inN (p_ns (s_P (g_S C))) x with
  | false =>
    rw [hx] at q
    simp only [Bool.false_eq_true, if_false] at q
    refine ⟨_, _, ?_, PC_nw h0⟩
    rw [c_152, b_152_0]
    simp (disch := omega) only [rd_I_mk, rd_R_mk, rd_L_mk, rd_D_mk, kd_mk, wr_I_mk, cp_mk, gd_true, bd_ret, bd_thr, vl_none, vl_some, iN_add, iN_mul, iN_sub, iN_lt, iN_eq, iN_n, iN_m1, iN_pred, vp_iN, K0_le, nr_b0, nr_b1, m1_lt, lt_m1, iN_ne_m1, m1_ne_iN, not_lt_z, true_and, and_true, and_self, or_true, true_or, or_false, false_or, if_true, if_false, ↓reduceIte, eq_self, up_at, up_a, up_k, cp_c, cp_b, Nat.zero_add, Nat.add_zero, Nat.sub_zero, Nat.le_refl, Nat.add_sub_cancel, fu_at, fu_ne, iN_nz, n10_f, n01_f, ofN, qq_at_100, k110b, Nat.lt_irrefl, Nat.not_lt_zero, ne_eq, not_false_eq_true, not_true_eq_false, k12, e0, k8, f0, k7, q, Bool.false_eq_true, oO]
  | true =>
    rw [hx, if_pos rfl] at q
    obtain ⟨k, hk, rfl⟩ := (inN_iff (by omega)).mp hx
    have q6 := c_standsAtHome (d := d + 39) (τ := τ) lp g2.1 g3.2.1 (x := k) hk
    rw [tn_iN (by omega)]
    refine ⟨I, τ, ?_, PC_rf h0⟩
    by_cases hb : p_pl (s_P (g_S C)) k = p_ho (s_P (g_S C)) k
    · have hb2 : hmB (g_S C) k = true := beq_iff_eq.mpr hb
      rw [if_pos hb] at q6
      rw [c_152, b_152_0]
      simp (disch := omega) only [rd_I_mk, rd_R_mk, rd_L_mk, rd_D_mk, kd_mk, wr_I_mk, cp_mk, gd_true, bd_ret, bd_thr, vl_none, vl_some, iN_add, iN_mul, iN_sub, iN_lt, iN_eq, iN_n, iN_m1, iN_pred, vp_iN, K0_le, nr_b0, nr_b1, m1_lt, lt_m1, iN_ne_m1, m1_ne_iN, not_lt_z, true_and, and_true, and_self, or_true, true_or, or_false, false_or, if_true, if_false, ↓reduceIte, eq_self, up_at, up_a, up_k, cp_c, cp_b, Nat.zero_add, Nat.add_zero, Nat.sub_zero, Nat.le_refl, Nat.add_sub_cancel, fu_at, fu_ne, iN_nz, n10_f, n01_f, ofN, qq_at_100, k110b, Nat.lt_irrefl, Nat.not_lt_zero, ne_eq, not_false_eq_true, not_true_eq_false, k12, e0, k8, q, f0, k7, b_152_3, q6, b_152_8, oO, hb2]
      rfl
    · have hb2 : hmB (g_S C) k = false := beq_eq_false_iff_ne.mpr hb
      rw [if_neg hb] at q6
      rw [c_152, b_152_0]
      simp (disch := omega) only [rd_I_mk, rd_R_mk, rd_L_mk, rd_D_mk, kd_mk, wr_I_mk, cp_mk, gd_true, bd_ret, bd_thr, vl_none, vl_some, iN_add, iN_mul, iN_sub, iN_lt, iN_eq, iN_n, iN_m1, iN_pred, vp_iN, K0_le, nr_b0, nr_b1, m1_lt, lt_m1, iN_ne_m1, m1_ne_iN, not_lt_z, true_and, and_true, and_self, or_true, true_or, or_false, false_or, if_true, if_false, ↓reduceIte, eq_self, up_at, up_a, up_k, cp_c, cp_b, Nat.zero_add, Nat.add_zero, Nat.sub_zero, Nat.le_refl, Nat.add_sub_cancel, fu_at, fu_ne, iN_nz, n10_f, n01_f, ofN, qq_at_100, k110b, Nat.lt_irrefl, Nat.not_lt_zero, ne_eq, not_false_eq_true, not_true_eq_false, k12, e0, k8, q, f0, k7, b_152_3, q6, b_152_8, oO, hb2]
      rfl
theorem p_byWeight (h : R_C I τ c Z B C) (x : Int32) : ∃ I' τ', CC (d + 40) 153 [.ref c, .int x] (I, τ) = some (oO (q_byWeight (g_S C) x), (I', τ')) ∧ PC I τ c Z B I' τ' C := by
  have h0 := h
  obtain ⟨g1, g2, g3, g4, g5, gx⟩ := h
  have c70 := g1.1
  have k12 := g1.2.1
  have e0 := g1.2.2.1
  have hl := g1.2.2.2.2.2.2.2.2.2.2.2.1
  have k8 := hl.2.1
  have lp := hl.2.2.2.2.2.1
  have lw := hl.2.2.2.2.2.2.1
  have lm := hl.2.2.2.2.2.2.2
  have w1 := g3.2.1.1
  have w2 := g3.2.1.2.1
  have w3 := g3.2.2.1.1
  have w4 := g3.2.2.1.2.1
  have wb := g3.1
  have f0 := hl.2.2.1
  have k7 := lp.2.1
  have j6 := lp.2.2.2.2.2.2.1
  have i5 := lp.2.2.2.2.2.2.2.2.2.2.2
  have r2 := g2.1.2.1
  have q := c_reqR (d := d + 39) (I := I) (τ := τ) x (n := p_ns (s_P (g_S C)))
  unfold q_byWeight
  cases hx : inN (p_ns (s_P (g_S C))) x with
  | false =>
    rw [hx] at q
    simp only [Bool.false_eq_true, if_false] at q
    refine ⟨_, _, ?_, PC_nw h0⟩
    rw [c_153, b_153_0]
    simp (disch := omega) only [rd_I_mk, rd_R_mk, rd_L_mk, rd_D_mk, kd_mk, wr_I_mk, cp_mk, gd_true, bd_ret, bd_thr, vl_none, vl_some, iN_add, iN_mul, iN_sub, iN_lt, iN_eq, iN_n, iN_m1, iN_pred, vp_iN, K0_le, nr_b0, nr_b1, m1_lt, lt_m1, iN_ne_m1, m1_ne_iN, not_lt_z, true_and, and_true, and_self, or_true, true_or, or_false, false_or, if_true, if_false, ↓reduceIte, eq_self, up_at, up_a, up_k, cp_c, cp_b, Nat.zero_add, Nat.add_zero, Nat.sub_zero, Nat.le_refl, Nat.add_sub_cancel, fu_at, fu_ne, iN_nz, n10_f, n01_f, ofN, qq_at_100, k110b, Nat.lt_irrefl, Nat.not_lt_zero, ne_eq, not_false_eq_true, not_true_eq_false, k12, e0, k8, f0, k7, j6, i5, r2, q, Bool.false_eq_true, oO]
  | true =>
    rw [hx, if_pos rfl] at q
    obtain ⟨k, hk, rfl⟩ := (inN_iff (by omega)).mp hx
    have r3 := g2.1.2.2.2.2.2.2 k hk
    rw [tn_iN (by omega)]
    refine ⟨I, τ, ?_, PC_rf h0⟩
    rw [c_153, b_153_0]
    simp (disch := omega) only [rd_I_mk, rd_R_mk, rd_L_mk, rd_D_mk, kd_mk, wr_I_mk, cp_mk, gd_true, bd_ret, bd_thr, vl_none, vl_some, iN_add, iN_mul, iN_sub, iN_lt, iN_eq, iN_n, iN_m1, iN_pred, vp_iN, K0_le, nr_b0, nr_b1, m1_lt, lt_m1, iN_ne_m1, m1_ne_iN, not_lt_z, true_and, and_true, and_self, or_true, true_or, or_false, false_or, if_true, if_false, ↓reduceIte, eq_self, up_at, up_a, up_k, cp_c, cp_b, Nat.zero_add, Nat.add_zero, Nat.sub_zero, Nat.le_refl, Nat.add_sub_cancel, fu_at, fu_ne, iN_nz, n10_f, n01_f, ofN, qq_at_100, k110b, Nat.lt_irrefl, Nat.not_lt_zero, ne_eq, not_false_eq_true, not_true_eq_false, k12, e0, k8, q, f0, k7, r2, j6, i5, b_153_6, r3, oO]
theorem p_nightsUntilHome (h : R_C I τ c Z B C) (hB : B + 50 ≤ 900000) (x : Int32) : ∃ I' τ', CC (d + 40) 154 [.ref c, .int x] (I, τ) = some (oO (q_nights (g_S C) x), (I', τ')) ∧ PC I τ c Z B I' τ' C := by
  have h0 := h
  obtain ⟨g1, g2, g3, g4, g5, gx⟩ := h
  have c70 := g1.1
  have k12 := g1.2.1
  have e0 := g1.2.2.1
  have hl := g1.2.2.2.2.2.2.2.2.2.2.2.1
  have k8 := hl.2.1
  have lp := hl.2.2.2.2.2.1
  have lw := hl.2.2.2.2.2.2.1
  have lm := hl.2.2.2.2.2.2.2
  have w1 := g3.2.1.1
  have w2 := g3.2.1.2.1
  have w3 := g3.2.2.1.1
  have w4 := g3.2.2.1.2.1
  have wb := g3.1
  have hl1 := g1.2.2.2.2.2.2.2.2.2.2.2.2.1
  have e1 := g1.2.2.2.1
  have k81 := hl1.2.1
  have q := c_reqS (d := d + 38) h0 x
  unfold q_nights
  cases hx : inN (p_ns (s_P (g_S C))) x with
  | false =>
    rw [hx] at q
    simp only [Bool.false_eq_true, if_false] at q
    refine ⟨_, _, ?_, PC_nw h0⟩
    rw [c_154, b_154_0]
    simp (disch := omega) only [rd_I_mk, rd_R_mk, rd_L_mk, rd_D_mk, kd_mk, wr_I_mk, cp_mk, gd_true, bd_ret, bd_thr, vl_none, vl_some, iN_add, iN_mul, iN_sub, iN_lt, iN_eq, iN_n, iN_m1, iN_pred, vp_iN, K0_le, nr_b0, nr_b1, m1_lt, lt_m1, iN_ne_m1, m1_ne_iN, not_lt_z, true_and, and_true, and_self, or_true, true_or, or_false, false_or, if_true, if_false, ↓reduceIte, eq_self, up_at, up_a, up_k, cp_c, cp_b, Nat.zero_add, Nat.add_zero, Nat.sub_zero, Nat.le_refl, Nat.add_sub_cancel, fu_at, fu_ne, iN_nz, n10_f, n01_f, ofN, qq_at_100, k110b, Nat.lt_irrefl, Nat.not_lt_zero, ne_eq, not_false_eq_true, not_true_eq_false, k12, e0, k8, e1, k81, q, Bool.false_eq_true, oO]
  | true =>
    rw [hx, if_pos rfl] at q
    obtain ⟨k, hk, rfl⟩ := (inN_iff (by omega)).mp hx
    rw [tn_iN (by omega)]
    obtain ⟨J, q6, q7, q8⟩ := c_copyRealm (d := d + 38) (τ := τ) hl1 hl g2 g3 (Or.inr (by omega))
    obtain ⟨K, q9, q10⟩ := c_nightsUntil (d := d + 35) hl1 q7 g3 hB hk
    have hfr := PC_fr (I' := K) h0 (fun a _ ha => by rw [q10 a (by omega), q8 a (by omega)]) Lq_rf
    by_cases hv : nuV 50 (g_S C) k 0 = m1
    · rw [if_pos hv]
      rw [hv] at q9
      have q11 : CC (d + 39) 197 [.int m1] (K, τ) = some (.inr 3, (nwI τ K, nT τ (201, 0) 6)) := by
        rw [c_197, b_197_0, if_pos rfl, nw_mk]
      refine ⟨_, _, ?_, PC_thr hfr⟩
      rw [c_154, b_154_0]
      simp (disch := omega) only [rd_I_mk, rd_R_mk, rd_L_mk, rd_D_mk, kd_mk, wr_I_mk, cp_mk, gd_true, bd_ret, bd_thr, vl_none, vl_some, iN_add, iN_mul, iN_sub, iN_lt, iN_eq, iN_n, iN_m1, iN_pred, vp_iN, K0_le, nr_b0, nr_b1, m1_lt, lt_m1, iN_ne_m1, m1_ne_iN, not_lt_z, true_and, and_true, and_self, or_true, true_or, or_false, false_or, if_true, if_false, ↓reduceIte, eq_self, up_at, up_a, up_k, cp_c, cp_b, Nat.zero_add, Nat.add_zero, Nat.sub_zero, Nat.le_refl, Nat.add_sub_cancel, fu_at, fu_ne, iN_nz, n10_f, n01_f, ofN, qq_at_100, k110b, Nat.lt_irrefl, Nat.not_lt_zero, ne_eq, not_false_eq_true, not_true_eq_false, k12, e0, e1, k8, k81, q, b_154_3, q6, b_154_8, q9, b_154_12, q11, oO]
    · rw [if_neg hv]
      have q11 : CC (d + 39) 197 [.int (nuV 50 (g_S C) k 0)] (K, τ) = some (.inl (some (.int (nuV 50 (g_S C) k 0))), (K, τ)) := by
        rw [c_197, b_197_0, if_neg hv]
      refine ⟨_, _, ?_, hfr⟩
      rw [c_154, b_154_0]
      simp (disch := omega) only [rd_I_mk, rd_R_mk, rd_L_mk, rd_D_mk, kd_mk, wr_I_mk, cp_mk, gd_true, bd_ret, bd_thr, vl_none, vl_some, iN_add, iN_mul, iN_sub, iN_lt, iN_eq, iN_n, iN_m1, iN_pred, vp_iN, K0_le, nr_b0, nr_b1, m1_lt, lt_m1, iN_ne_m1, m1_ne_iN, not_lt_z, true_and, and_true, and_self, or_true, true_or, or_false, false_or, if_true, if_false, ↓reduceIte, eq_self, up_at, up_a, up_k, cp_c, cp_b, Nat.zero_add, Nat.add_zero, Nat.sub_zero, Nat.le_refl, Nat.add_sub_cancel, fu_at, fu_ne, iN_nz, n10_f, n01_f, ofN, qq_at_100, k110b, Nat.lt_irrefl, Nat.not_lt_zero, ne_eq, not_false_eq_true, not_true_eq_false, k12, e0, e1, k8, k81, q, b_154_3, q6, b_154_8, q9, b_154_12, q11, b_154_13, oO]
theorem p_writAt (h : R_C I τ c Z B C) (x : Int32) : ∃ I' τ', CC (d + 40) 156 [.ref c, .int x] (I, τ) = some (oO (q_writAt (g_S C) x), (I', τ')) ∧ PC I τ c Z B I' τ' C := by
  have h0 := h
  obtain ⟨g1, g2, g3, g4, g5, gx⟩ := h
  have c70 := g1.1
  have k12 := g1.2.1
  have e0 := g1.2.2.1
  have hl := g1.2.2.2.2.2.2.2.2.2.2.2.1
  have k8 := hl.2.1
  have lp := hl.2.2.2.2.2.1
  have lw := hl.2.2.2.2.2.2.1
  have lm := hl.2.2.2.2.2.2.2
  have w1 := g3.2.1.1
  have w2 := g3.2.1.2.1
  have w3 := g3.2.2.1.1
  have w4 := g3.2.2.1.2.1
  have wb := g3.1
  have f1 := hl.2.2.2.1
  have kW := lw.2.1
  have u2 := lw.2.2.1
  have v1 := lw.2.2.2.2.2.2.2.2.1
  have t0 := g2.2.1.1
  have q := c_reqR (d := d + 39) (I := I) (τ := τ) x (n := un (s_U (g_S C)))
  unfold q_writAt
  cases hx : inN (un (s_U (g_S C))) x with
  | false =>
    rw [hx] at q
    simp only [Bool.false_eq_true, if_false] at q
    refine ⟨_, _, ?_, PC_nw h0⟩
    rw [c_156, b_156_0]
    simp (disch := omega) only [rd_I_mk, rd_R_mk, rd_L_mk, rd_D_mk, kd_mk, wr_I_mk, cp_mk, gd_true, bd_ret, bd_thr, vl_none, vl_some, iN_add, iN_mul, iN_sub, iN_lt, iN_eq, iN_n, iN_m1, iN_pred, vp_iN, K0_le, nr_b0, nr_b1, m1_lt, lt_m1, iN_ne_m1, m1_ne_iN, not_lt_z, true_and, and_true, and_self, or_true, true_or, or_false, false_or, if_true, if_false, ↓reduceIte, eq_self, up_at, up_a, up_k, cp_c, cp_b, Nat.zero_add, Nat.add_zero, Nat.sub_zero, Nat.le_refl, Nat.add_sub_cancel, fu_at, fu_ne, iN_nz, n10_f, n01_f, ofN, qq_at_100, k110b, Nat.lt_irrefl, Nat.not_lt_zero, ne_eq, not_false_eq_true, not_true_eq_false, k12, e0, k8, f1, kW, u2, v1, t0, q, Bool.false_eq_true, oO]
  | true =>
    rw [hx, if_pos rfl] at q
    obtain ⟨k, hk, rfl⟩ := (inN_iff (by omega)).mp hx
    have r3 := g2.2.1.2.2.1 k hk
    rw [tn_iN (by omega)]
    refine ⟨I, τ, ?_, PC_rf h0⟩
    rw [c_156, b_156_0]
    simp (disch := omega) only [rd_I_mk, rd_R_mk, rd_L_mk, rd_D_mk, kd_mk, wr_I_mk, cp_mk, gd_true, bd_ret, bd_thr, vl_none, vl_some, iN_add, iN_mul, iN_sub, iN_lt, iN_eq, iN_n, iN_m1, iN_pred, vp_iN, K0_le, nr_b0, nr_b1, m1_lt, lt_m1, iN_ne_m1, m1_ne_iN, not_lt_z, true_and, and_true, and_self, or_true, true_or, or_false, false_or, if_true, if_false, ↓reduceIte, eq_self, up_at, up_a, up_k, cp_c, cp_b, Nat.zero_add, Nat.add_zero, Nat.sub_zero, Nat.le_refl, Nat.add_sub_cancel, fu_at, fu_ne, iN_nz, n10_f, n01_f, ofN, qq_at_100, k110b, Nat.lt_irrefl, Nat.not_lt_zero, ne_eq, not_false_eq_true, not_true_eq_false, k12, e0, k8, q, f1, kW, t0, u2, v1, b_156_6, r3, oO]
theorem p_statueOf (h : R_C I τ c Z B C) (x : Int32) : ∃ I' τ', CC (d + 40) 157 [.ref c, .int x] (I, τ) = some (oO (q_wr (fun k => iN (w_of (ug (s_U (g_S C)) k))) (g_S C) x), (I', τ')) ∧ PC I τ c Z B I' τ' C := by
  have h0 := h
  obtain ⟨g1, g2, g3, g4, g5, gx⟩ := h
  have c70 := g1.1
  have k12 := g1.2.1
  have e0 := g1.2.2.1
  have hl := g1.2.2.2.2.2.2.2.2.2.2.2.1
  have k8 := hl.2.1
  have lp := hl.2.2.2.2.2.1
  have lw := hl.2.2.2.2.2.2.1
  have lm := hl.2.2.2.2.2.2.2
  have w1 := g3.2.1.1
  have w2 := g3.2.1.2.1
  have w3 := g3.2.2.1.1
  have w4 := g3.2.2.1.2.1
  have wb := g3.1
  have f1 := hl.2.2.2.1
  have kW := lw.2.1
  have u3 := lw.2.2.2.1
  have v2 := lw.2.2.2.2.2.2.2.2.2.1
  unfold q_wr
  have q := c_pos (d := d + 38) h0 x
  cases hx : fiX (s_U (g_S C)) x with
  | none =>
    rw [hx] at q
    have q : CC (d + 39) 199 [.ref c, .int x] (I, τ) = some (.inr 3, (nwI τ I, nT τ (201, 0) 6)) := q
    refine ⟨_, _, ?_, PC_nw h0⟩
    rw [c_157, b_157_0]
    simp (disch := omega) only [rd_I_mk, rd_R_mk, rd_L_mk, rd_D_mk, kd_mk, wr_I_mk, cp_mk, gd_true, bd_ret, bd_thr, vl_none, vl_some, iN_add, iN_mul, iN_sub, iN_lt, iN_eq, iN_n, iN_m1, iN_pred, vp_iN, K0_le, nr_b0, nr_b1, m1_lt, lt_m1, iN_ne_m1, m1_ne_iN, not_lt_z, true_and, and_true, and_self, or_true, true_or, or_false, false_or, if_true, if_false, ↓reduceIte, eq_self, up_at, up_a, up_k, cp_c, cp_b, Nat.zero_add, Nat.add_zero, Nat.sub_zero, Nat.le_refl, Nat.add_sub_cancel, fu_at, fu_ne, iN_nz, n10_f, n01_f, ofN, qq_at_100, k110b, Nat.lt_irrefl, Nat.not_lt_zero, ne_eq, not_false_eq_true, not_true_eq_false, k12, e0, k8, f1, kW, u3, v2, q, oO]
  | some k =>
    have hk := fiX_lt hx
    rw [hx] at q
    have q : CC (d + 39) 199 [.ref c, .int x] (I, τ) = some (.inl (some (.int (iN k))), (I, τ)) := q
    have r3 := g2.2.1.2.2.2.1 k hk
    refine ⟨I, τ, ?_, PC_rf h0⟩
    rw [c_157, b_157_0]
    simp (disch := omega) only [rd_I_mk, rd_R_mk, rd_L_mk, rd_D_mk, kd_mk, wr_I_mk, cp_mk, gd_true, bd_ret, bd_thr, vl_none, vl_some, iN_add, iN_mul, iN_sub, iN_lt, iN_eq, iN_n, iN_m1, iN_pred, vp_iN, K0_le, nr_b0, nr_b1, m1_lt, lt_m1, iN_ne_m1, m1_ne_iN, not_lt_z, true_and, and_true, and_self, or_true, true_or, or_false, false_or, if_true, if_false, ↓reduceIte, eq_self, up_at, up_a, up_k, cp_c, cp_b, Nat.zero_add, Nat.add_zero, Nat.sub_zero, Nat.le_refl, Nat.add_sub_cancel, fu_at, fu_ne, iN_nz, n10_f, n01_f, ofN, qq_at_100, k110b, Nat.lt_irrefl, Nat.not_lt_zero, ne_eq, not_false_eq_true, not_true_eq_false, k12, e0, k8, q, f1, kW, u3, v2, b_157_7, r3, oO]
theorem p_lastNight (h : R_C I τ c Z B C) (x : Int32) : ∃ I' τ', CC (d + 40) 158 [.ref c, .int x] (I, τ) = some (oO (q_wr (fun k => iN (w_la (ug (s_U (g_S C)) k))) (g_S C) x), (I', τ')) ∧ PC I τ c Z B I' τ' C := by
  have h0 := h
  obtain ⟨g1, g2, g3, g4, g5, gx⟩ := h
  have c70 := g1.1
  have k12 := g1.2.1
  have e0 := g1.2.2.1
  have hl := g1.2.2.2.2.2.2.2.2.2.2.2.1
  have k8 := hl.2.1
  have lp := hl.2.2.2.2.2.1
  have lw := hl.2.2.2.2.2.2.1
  have lm := hl.2.2.2.2.2.2.2
  have w1 := g3.2.1.1
  have w2 := g3.2.1.2.1
  have w3 := g3.2.2.1.1
  have w4 := g3.2.2.1.2.1
  have wb := g3.1
  have f1 := hl.2.2.2.1
  have kW := lw.2.1
  have u4 := lw.2.2.2.2.1
  have v3 := lw.2.2.2.2.2.2.2.2.2.2.1
  unfold q_wr
  have q := c_pos (d := d + 38) h0 x
  cases hx : fiX (s_U (g_S C)) x with
  | none =>
    rw [hx] at q
    have q : CC (d + 39) 199 [.ref c, .int x] (I, τ) = some (.inr 3, (nwI τ I, nT τ (201, 0) 6)) := q
    refine ⟨_, _, ?_, PC_nw h0⟩
    rw [c_158, b_158_0]
    simp (disch := omega) only [rd_I_mk, rd_R_mk, rd_L_mk, rd_D_mk, kd_mk, wr_I_mk, cp_mk, gd_true, bd_ret, bd_thr, vl_none, vl_some, iN_add, iN_mul, iN_sub, iN_lt, iN_eq, iN_n, iN_m1, iN_pred, vp_iN, K0_le, nr_b0, nr_b1, m1_lt, lt_m1, iN_ne_m1, m1_ne_iN, not_lt_z, true_and, and_true, and_self, or_true, true_or, or_false, false_or, if_true, if_false, ↓reduceIte, eq_self, up_at, up_a, up_k, cp_c, cp_b, Nat.zero_add, Nat.add_zero, Nat.sub_zero, Nat.le_refl, Nat.add_sub_cancel, fu_at, fu_ne, iN_nz, n10_f, n01_f, ofN, qq_at_100, k110b, Nat.lt_irrefl, Nat.not_lt_zero, ne_eq, not_false_eq_true, not_true_eq_false, k12, e0, k8, f1, kW, u4, v3, q, oO]
  | some k =>
    have hk := fiX_lt hx
    rw [hx] at q
    have q : CC (d + 39) 199 [.ref c, .int x] (I, τ) = some (.inl (some (.int (iN k))), (I, τ)) := q
    have r3 := g2.2.1.2.2.2.2.1 k hk
    refine ⟨I, τ, ?_, PC_rf h0⟩
    rw [c_158, b_158_0]
    simp (disch := omega) only [rd_I_mk, rd_R_mk, rd_L_mk, rd_D_mk, kd_mk, wr_I_mk, cp_mk, gd_true, bd_ret, bd_thr, vl_none, vl_some, iN_add, iN_mul, iN_sub, iN_lt, iN_eq, iN_n, iN_m1, iN_pred, vp_iN, K0_le, nr_b0, nr_b1, m1_lt, lt_m1, iN_ne_m1, m1_ne_iN, not_lt_z, true_and, and_true, and_self, or_true, true_or, or_false, false_or, if_true, if_false, ↓reduceIte, eq_self, up_at, up_a, up_k, cp_c, cp_b, Nat.zero_add, Nat.add_zero, Nat.sub_zero, Nat.le_refl, Nat.add_sub_cancel, fu_at, fu_ne, iN_nz, n10_f, n01_f, ofN, qq_at_100, k110b, Nat.lt_irrefl, Nat.not_lt_zero, ne_eq, not_false_eq_true, not_true_eq_false, k12, e0, k8, q, f1, kW, u4, v3, b_158_7, r3, oO]
theorem p_bail (h : R_C I τ c Z B C) (x : Int32) : ∃ I' τ', CC (d + 40) 159 [.ref c, .int x] (I, τ) = some (oO (q_wr (fun k => iN (w_ba (ug (s_U (g_S C)) k))) (g_S C) x), (I', τ')) ∧ PC I τ c Z B I' τ' C := by
  have h0 := h
  obtain ⟨g1, g2, g3, g4, g5, gx⟩ := h
  have c70 := g1.1
  have k12 := g1.2.1
  have e0 := g1.2.2.1
  have hl := g1.2.2.2.2.2.2.2.2.2.2.2.1
  have k8 := hl.2.1
  have lp := hl.2.2.2.2.2.1
  have lw := hl.2.2.2.2.2.2.1
  have lm := hl.2.2.2.2.2.2.2
  have w1 := g3.2.1.1
  have w2 := g3.2.1.2.1
  have w3 := g3.2.2.1.1
  have w4 := g3.2.2.1.2.1
  have wb := g3.1
  have f1 := hl.2.2.2.1
  have kW := lw.2.1
  have u5 := lw.2.2.2.2.2.1
  have v4 := lw.2.2.2.2.2.2.2.2.2.2.2.1
  unfold q_wr
  have q := c_pos (d := d + 38) h0 x
  cases hx : fiX (s_U (g_S C)) x with
  | none =>
    rw [hx] at q
    have q : CC (d + 39) 199 [.ref c, .int x] (I, τ) = some (.inr 3, (nwI τ I, nT τ (201, 0) 6)) := q
    refine ⟨_, _, ?_, PC_nw h0⟩
    rw [c_159, b_159_0]
    simp (disch := omega) only [rd_I_mk, rd_R_mk, rd_L_mk, rd_D_mk, kd_mk, wr_I_mk, cp_mk, gd_true, bd_ret, bd_thr, vl_none, vl_some, iN_add, iN_mul, iN_sub, iN_lt, iN_eq, iN_n, iN_m1, iN_pred, vp_iN, K0_le, nr_b0, nr_b1, m1_lt, lt_m1, iN_ne_m1, m1_ne_iN, not_lt_z, true_and, and_true, and_self, or_true, true_or, or_false, false_or, if_true, if_false, ↓reduceIte, eq_self, up_at, up_a, up_k, cp_c, cp_b, Nat.zero_add, Nat.add_zero, Nat.sub_zero, Nat.le_refl, Nat.add_sub_cancel, fu_at, fu_ne, iN_nz, n10_f, n01_f, ofN, qq_at_100, k110b, Nat.lt_irrefl, Nat.not_lt_zero, ne_eq, not_false_eq_true, not_true_eq_false, k12, e0, k8, f1, kW, u5, v4, q, oO]
  | some k =>
    have hk := fiX_lt hx
    rw [hx] at q
    have q : CC (d + 39) 199 [.ref c, .int x] (I, τ) = some (.inl (some (.int (iN k))), (I, τ)) := q
    have r3 := g2.2.1.2.2.2.2.2.1 k hk
    refine ⟨I, τ, ?_, PC_rf h0⟩
    rw [c_159, b_159_0]
    simp (disch := omega) only [rd_I_mk, rd_R_mk, rd_L_mk, rd_D_mk, kd_mk, wr_I_mk, cp_mk, gd_true, bd_ret, bd_thr, vl_none, vl_some, iN_add, iN_mul, iN_sub, iN_lt, iN_eq, iN_n, iN_m1, iN_pred, vp_iN, K0_le, nr_b0, nr_b1, m1_lt, lt_m1, iN_ne_m1, m1_ne_iN, not_lt_z, true_and, and_true, and_self, or_true, true_or, or_false, false_or, if_true, if_false, ↓reduceIte, eq_self, up_at, up_a, up_k, cp_c, cp_b, Nat.zero_add, Nat.add_zero, Nat.sub_zero, Nat.le_refl, Nat.add_sub_cancel, fu_at, fu_ne, iN_nz, n10_f, n01_f, ofN, qq_at_100, k110b, Nat.lt_irrefl, Nat.not_lt_zero, ne_eq, not_false_eq_true, not_true_eq_false, k12, e0, k8, q, f1, kW, u5, v4, b_159_7, r3, oO]
theorem p_isPaid (h : R_C I τ c Z B C) (x : Int32) : ∃ I' τ', CC (d + 40) 160 [.ref c, .int x] (I, τ) = some (oO (q_wr (fun k => iN (w_pd (ug (s_U (g_S C)) k))) (g_S C) x), (I', τ')) ∧ PC I τ c Z B I' τ' C := by
  have h0 := h
  obtain ⟨g1, g2, g3, g4, g5, gx⟩ := h
  have c70 := g1.1
  have k12 := g1.2.1
  have e0 := g1.2.2.1
  have hl := g1.2.2.2.2.2.2.2.2.2.2.2.1
  have k8 := hl.2.1
  have lp := hl.2.2.2.2.2.1
  have lw := hl.2.2.2.2.2.2.1
  have lm := hl.2.2.2.2.2.2.2
  have w1 := g3.2.1.1
  have w2 := g3.2.1.2.1
  have w3 := g3.2.2.1.1
  have w4 := g3.2.2.1.2.1
  have wb := g3.1
  have f1 := hl.2.2.2.1
  have kW := lw.2.1
  have u7 := lw.2.2.2.2.2.2.2.1
  have v6 := lw.2.2.2.2.2.2.2.2.2.2.2.2.2
  unfold q_wr
  have q := c_pos (d := d + 38) h0 x
  cases hx : fiX (s_U (g_S C)) x with
  | none =>
    rw [hx] at q
    have q : CC (d + 39) 199 [.ref c, .int x] (I, τ) = some (.inr 3, (nwI τ I, nT τ (201, 0) 6)) := q
    refine ⟨_, _, ?_, PC_nw h0⟩
    rw [c_160, b_160_0]
    simp (disch := omega) only [rd_I_mk, rd_R_mk, rd_L_mk, rd_D_mk, kd_mk, wr_I_mk, cp_mk, gd_true, bd_ret, bd_thr, vl_none, vl_some, iN_add, iN_mul, iN_sub, iN_lt, iN_eq, iN_n, iN_m1, iN_pred, vp_iN, K0_le, nr_b0, nr_b1, m1_lt, lt_m1, iN_ne_m1, m1_ne_iN, not_lt_z, true_and, and_true, and_self, or_true, true_or, or_false, false_or, if_true, if_false, ↓reduceIte, eq_self, up_at, up_a, up_k, cp_c, cp_b, Nat.zero_add, Nat.add_zero, Nat.sub_zero, Nat.le_refl, Nat.add_sub_cancel, fu_at, fu_ne, iN_nz, n10_f, n01_f, ofN, qq_at_100, k110b, Nat.lt_irrefl, Nat.not_lt_zero, ne_eq, not_false_eq_true, not_true_eq_false, k12, e0, k8, f1, kW, u7, v6, q, oO]
  | some k =>
    have hk := fiX_lt hx
    rw [hx] at q
    have q : CC (d + 39) 199 [.ref c, .int x] (I, τ) = some (.inl (some (.int (iN k))), (I, τ)) := q
    have r3 := g2.2.1.2.2.2.2.2.2.2 k hk
    have r4 := (g3.2.2.1.2.2.2 k hk).2.2.2.2.1
    refine ⟨I, τ, ?_, PC_rf h0⟩
    rw [c_160, b_160_0]
    rcases (show w_pd (ug (s_U (g_S C)) k) = 0 ∨ w_pd (ug (s_U (g_S C)) k) = 1 by omega) with r5 | r5
    · simp (disch := omega) only [rd_I_mk, rd_R_mk, rd_L_mk, rd_D_mk, kd_mk, wr_I_mk, cp_mk, gd_true, bd_ret, bd_thr, vl_none, vl_some, iN_add, iN_mul, iN_sub, iN_lt, iN_eq, iN_n, iN_m1, iN_pred, vp_iN, K0_le, nr_b0, nr_b1, m1_lt, lt_m1, iN_ne_m1, m1_ne_iN, not_lt_z, true_and, and_true, and_self, or_true, true_or, or_false, false_or, if_true, if_false, ↓reduceIte, eq_self, up_at, up_a, up_k, cp_c, cp_b, Nat.zero_add, Nat.add_zero, Nat.sub_zero, Nat.le_refl, Nat.add_sub_cancel, fu_at, fu_ne, iN_nz, n10_f, n01_f, ofN, qq_at_100, k110b, Nat.lt_irrefl, Nat.not_lt_zero, ne_eq, not_false_eq_true, not_true_eq_false, k12, e0, k8, q, f1, kW, u7, v6, b_160_7, r3, r5, oO]
    · simp (disch := omega) only [rd_I_mk, rd_R_mk, rd_L_mk, rd_D_mk, kd_mk, wr_I_mk, cp_mk, gd_true, bd_ret, bd_thr, vl_none, vl_some, iN_add, iN_mul, iN_sub, iN_lt, iN_eq, iN_n, iN_m1, iN_pred, vp_iN, K0_le, nr_b0, nr_b1, m1_lt, lt_m1, iN_ne_m1, m1_ne_iN, not_lt_z, true_and, and_true, and_self, or_true, true_or, or_false, false_or, if_true, if_false, ↓reduceIte, eq_self, up_at, up_a, up_k, cp_c, cp_b, Nat.zero_add, Nat.add_zero, Nat.sub_zero, Nat.le_refl, Nat.add_sub_cancel, fu_at, fu_ne, iN_nz, n10_f, n01_f, ofN, qq_at_100, k110b, Nat.lt_irrefl, Nat.not_lt_zero, ne_eq, not_false_eq_true, not_true_eq_false, k12, e0, k8, q, f1, kW, u7, v6, b_160_7, r3, r5, oO]
theorem p_causeOf (h : R_C I τ c Z B C) (x : Int32) : ∃ I' τ', CC (d + 40) 161 [.ref c, .int x] (I, τ) = some (oO (q_cause (g_S C) x), (I', τ')) ∧ PC I τ c Z B I' τ' C := by
  have h0 := h
  obtain ⟨g1, g2, g3, g4, g5, gx⟩ := h
  have c70 := g1.1
  have k12 := g1.2.1
  have e0 := g1.2.2.1
  have hl := g1.2.2.2.2.2.2.2.2.2.2.2.1
  have k8 := hl.2.1
  have lp := hl.2.2.2.2.2.1
  have lw := hl.2.2.2.2.2.2.1
  have lm := hl.2.2.2.2.2.2.2
  have w1 := g3.2.1.1
  have w2 := g3.2.1.2.1
  have w3 := g3.2.2.1.1
  have w4 := g3.2.2.1.2.1
  have wb := g3.1
  have f1 := hl.2.2.2.1
  have kW := lw.2.1
  have u6 := lw.2.2.2.2.2.2.1
  have v5 := lw.2.2.2.2.2.2.2.2.2.2.2.2.1
  unfold q_cause
  have q := c_pos (d := d + 38) h0 x
  cases hx : fiX (s_U (g_S C)) x with
  | none =>
    rw [hx] at q
    have q : CC (d + 39) 199 [.ref c, .int x] (I, τ) = some (.inr 3, (nwI τ I, nT τ (201, 0) 6)) := q
    refine ⟨_, _, ?_, PC_nw h0⟩
    rw [c_161, b_161_0]
    simp (disch := omega) only [rd_I_mk, rd_R_mk, rd_L_mk, rd_D_mk, kd_mk, wr_I_mk, cp_mk, gd_true, bd_ret, bd_thr, vl_none, vl_some, iN_add, iN_mul, iN_sub, iN_lt, iN_eq, iN_n, iN_m1, iN_pred, vp_iN, K0_le, nr_b0, nr_b1, m1_lt, lt_m1, iN_ne_m1, m1_ne_iN, not_lt_z, true_and, and_true, and_self, or_true, true_or, or_false, false_or, if_true, if_false, ↓reduceIte, eq_self, up_at, up_a, up_k, cp_c, cp_b, Nat.zero_add, Nat.add_zero, Nat.sub_zero, Nat.le_refl, Nat.add_sub_cancel, fu_at, fu_ne, iN_nz, n10_f, n01_f, ofN, qq_at_100, k110b, Nat.lt_irrefl, Nat.not_lt_zero, ne_eq, not_false_eq_true, not_true_eq_false, k12, e0, k8, f1, kW, u6, v5, q, oO]
  | some k =>
    have hk := fiX_lt hx
    rw [hx] at q
    have q : CC (d + 39) 199 [.ref c, .int x] (I, τ) = some (.inl (some (.int (iN k))), (I, τ)) := q
    have r3 := g2.2.1.2.2.2.2.2.2.1 k hk
    obtain ⟨y1, -, -, -, -, -, y2⟩ := g3.2.2.1.2.2.2 k hk
    by_cases r5 : w_ca (ug (s_U (g_S C)) k) = 0
    · rw [r5, caC_0] at r3
      have q11 : CC (d + 39) 197 [.int m1] (I, τ) = some (.inr 3, (nwI τ I, nT τ (201, 0) 6)) := by
        rw [c_197, b_197_0, if_pos rfl, nw_mk]
      refine ⟨_, _, ?_, PC_nw h0⟩
      rw [c_161, b_161_0]
      simp (disch := omega) only [rd_I_mk, rd_R_mk, rd_L_mk, rd_D_mk, kd_mk, wr_I_mk, cp_mk, gd_true, bd_ret, bd_thr, vl_none, vl_some, iN_add, iN_mul, iN_sub, iN_lt, iN_eq, iN_n, iN_m1, iN_pred, vp_iN, K0_le, nr_b0, nr_b1, m1_lt, lt_m1, iN_ne_m1, m1_ne_iN, not_lt_z, true_and, and_true, and_self, or_true, true_or, or_false, false_or, if_true, if_false, ↓reduceIte, eq_self, up_at, up_a, up_k, cp_c, cp_b, Nat.zero_add, Nat.add_zero, Nat.sub_zero, Nat.le_refl, Nat.add_sub_cancel, fu_at, fu_ne, iN_nz, n10_f, n01_f, ofN, qq_at_100, k110b, Nat.lt_irrefl, Nat.not_lt_zero, ne_eq, not_false_eq_true, not_true_eq_false, k12, e0, k8, q, f1, kW, u6, v5, b_161_7, r3, q11, r5, oO]
    · obtain ⟨j, hj⟩ : ∃ j, w_ca (ug (s_U (g_S C)) k) = j + 1 := ⟨w_ca (ug (s_U (g_S C)) k) - 1, by omega⟩
      rw [hj, caC_s] at r3
      have hjx : j < 1000000 := by
        rcases y2 with y2 | ⟨i, y3, y4⟩
        · omega
        · have := (g3.2.2.1.2.2.2 i (by omega)).1
          omega
      have q11 : CC (d + 39) 197 [.int (iN j)] (I, τ) = some (.inl (some (.int (iN j))), (I, τ)) := by
        rw [c_197, b_197_0, if_neg (fun z => by rw [iN_ne_m1 (by omega)] at z; exact z)]
      have hj0 : ¬ j + 1 = 0 := by omega
      refine ⟨I, τ, ?_, PC_rf h0⟩
      rw [c_161, b_161_0]
      simp (disch := omega) only [rd_I_mk, rd_R_mk, rd_L_mk, rd_D_mk, kd_mk, wr_I_mk, cp_mk, gd_true, bd_ret, bd_thr, vl_none, vl_some, iN_add, iN_mul, iN_sub, iN_lt, iN_eq, iN_n, iN_m1, iN_pred, vp_iN, K0_le, nr_b0, nr_b1, m1_lt, lt_m1, iN_ne_m1, m1_ne_iN, not_lt_z, true_and, and_true, and_self, or_true, true_or, or_false, false_or, if_true, if_false, ↓reduceIte, eq_self, up_at, up_a, up_k, cp_c, cp_b, Nat.zero_add, Nat.add_zero, Nat.sub_zero, Nat.le_refl, Nat.add_sub_cancel, fu_at, fu_ne, iN_nz, n10_f, n01_f, ofN, qq_at_100, k110b, Nat.lt_irrefl, Nat.not_lt_zero, ne_eq, not_false_eq_true, not_true_eq_false, k12, e0, k8, q, f1, kW, u6, v5, b_161_7, r3, q11, b_161_9, hj, hj0, oO]
theorem p_causeDepth (h : R_C I τ c Z B C) (x : Int32) : ∃ I' τ', CC (d + 40) 162 [.ref c, .int x] (I, τ) = some (oO (q_wr (fun k => iN (dpU (s_U (g_S C)) 8 k)) (g_S C) x), (I', τ')) ∧ PC I τ c Z B I' τ' C := by
  have h0 := h
  obtain ⟨g1, g2, g3, g4, g5, gx⟩ := h
  have c70 := g1.1
  have k12 := g1.2.1
  have e0 := g1.2.2.1
  have hl := g1.2.2.2.2.2.2.2.2.2.2.2.1
  have k8 := hl.2.1
  have lp := hl.2.2.2.2.2.1
  have lw := hl.2.2.2.2.2.2.1
  have lm := hl.2.2.2.2.2.2.2
  have w1 := g3.2.1.1
  have w2 := g3.2.1.2.1
  have w3 := g3.2.2.1.1
  have w4 := g3.2.2.1.2.1
  have wb := g3.1
  have f1 := hl.2.2.2.1
  have kW := lw.2.1
  unfold q_wr
  have q := c_pos (d := d + 38) h0 x
  cases hx : fiX (s_U (g_S C)) x with
  | none =>
    rw [hx] at q
    have q : CC (d + 39) 199 [.ref c, .int x] (I, τ) = some (.inr 3, (nwI τ I, nT τ (201, 0) 6)) := q
    refine ⟨_, _, ?_, PC_nw h0⟩
    rw [c_162, b_162_0]
    simp (disch := omega) only [rd_I_mk, rd_R_mk, rd_L_mk, rd_D_mk, kd_mk, wr_I_mk, cp_mk, gd_true, bd_ret, bd_thr, vl_none, vl_some, iN_add, iN_mul, iN_sub, iN_lt, iN_eq, iN_n, iN_m1, iN_pred, vp_iN, K0_le, nr_b0, nr_b1, m1_lt, lt_m1, iN_ne_m1, m1_ne_iN, not_lt_z, true_and, and_true, and_self, or_true, true_or, or_false, false_or, if_true, if_false, ↓reduceIte, eq_self, up_at, up_a, up_k, cp_c, cp_b, Nat.zero_add, Nat.add_zero, Nat.sub_zero, Nat.le_refl, Nat.add_sub_cancel, fu_at, fu_ne, iN_nz, n10_f, n01_f, ofN, qq_at_100, k110b, Nat.lt_irrefl, Nat.not_lt_zero, ne_eq, not_false_eq_true, not_true_eq_false, k12, e0, k8, f1, kW, q, oO]
  | some k =>
    have hk := fiX_lt hx
    rw [hx] at q
    have q : CC (d + 39) 199 [.ref c, .int x] (I, τ) = some (.inl (some (.int (iN k))), (I, τ)) := q
    have q6 := c_countCauses (d := d + 38) (τ := τ) lw g2.2.1 g3.2.2.1 hk
    refine ⟨I, τ, ?_, PC_rf h0⟩
    rw [c_162, b_162_0]
    simp (disch := omega) only [rd_I_mk, rd_R_mk, rd_L_mk, rd_D_mk, kd_mk, wr_I_mk, cp_mk, gd_true, bd_ret, bd_thr, vl_none, vl_some, iN_add, iN_mul, iN_sub, iN_lt, iN_eq, iN_n, iN_m1, iN_pred, vp_iN, K0_le, nr_b0, nr_b1, m1_lt, lt_m1, iN_ne_m1, m1_ne_iN, not_lt_z, true_and, and_true, and_self, or_true, true_or, or_false, false_or, if_true, if_false, ↓reduceIte, eq_self, up_at, up_a, up_k, cp_c, cp_b, Nat.zero_add, Nat.add_zero, Nat.sub_zero, Nat.le_refl, Nat.add_sub_cancel, fu_at, fu_ne, iN_nz, n10_f, n01_f, ofN, qq_at_100, k110b, Nat.lt_irrefl, Nat.not_lt_zero, ne_eq, not_false_eq_true, not_true_eq_false, k12, e0, k8, q, f1, kW, b_162_6, q6, b_162_7, oO]
theorem p_docketValue (h : R_C I τ c Z B C) : ∃ I' τ', CC (d + 40) 164 [.ref c] (I, τ) = some (oO (.inl (iN (gr (s_U (g_S C)) (fnt (g_S C)) (un (s_U (g_S C)))).sum)), (I', τ')) ∧ PC I τ c Z B I' τ' C := by
  have h0 := h
  obtain ⟨g1, g2, g3, g4, g5, gx⟩ := h
  have c70 := g1.1
  have k12 := g1.2.1
  have e0 := g1.2.2.1
  have hl := g1.2.2.2.2.2.2.2.2.2.2.2.1
  have k8 := hl.2.1
  have lp := hl.2.2.2.2.2.1
  have lw := hl.2.2.2.2.2.2.1
  have lm := hl.2.2.2.2.2.2.2
  have w1 := g3.2.1.1
  have w2 := g3.2.1.2.1
  have w3 := g3.2.2.1.1
  have w4 := g3.2.2.1.2.1
  have wb := g3.1
  have hD6 := g1.2.2.2.2.2.2.2.2.2.2.2.2.2.2.2.2.1
  have f1 := hl.2.2.2.1
  have e6 := g1.2.2.2.2.2.2.2.1
  have k3 := hD6.2.1
  have q1 := c_firstNight (d := d + 39) (τ := τ) hl g2 g3
  have w8 := g3.2.2.2.2.1
  have hf : fnt (g_S C) < 1000000 := by unfold fnt; split <;> omega
  obtain ⟨J, q6, q7⟩ := c_givingUp (d := d + 37) (τ := τ) hD6 lw g2.2.1 g3.2.2.1 (Or.inl (by omega)) hf
  refine ⟨J, τ, ?_, PC_fr h0 (fun a _ ha => q7 a (by omega)) Lq_rf⟩
  rw [c_164, b_164_0]
  simp (disch := omega) only [rd_I_mk, rd_R_mk, rd_L_mk, rd_D_mk, kd_mk, wr_I_mk, cp_mk, gd_true, bd_ret, bd_thr, vl_none, vl_some, iN_add, iN_mul, iN_sub, iN_lt, iN_eq, iN_n, iN_m1, iN_pred, vp_iN, K0_le, nr_b0, nr_b1, m1_lt, lt_m1, iN_ne_m1, m1_ne_iN, not_lt_z, true_and, and_true, and_self, or_true, true_or, or_false, false_or, if_true, if_false, ↓reduceIte, eq_self, up_at, up_a, up_k, cp_c, cp_b, Nat.zero_add, Nat.add_zero, Nat.sub_zero, Nat.le_refl, Nat.add_sub_cancel, fu_at, fu_ne, iN_nz, n10_f, n01_f, ofN, qq_at_100, k110b, Nat.lt_irrefl, Nat.not_lt_zero, ne_eq, not_false_eq_true, not_true_eq_false, k12, e0, e6, k8, f1, k3, q1, b_164_8, q6, b_164_9, oO]
theorem p_docketBySets (h : R_C I τ c Z B C) : ∃ I' τ', CC (d + 40) 165 [.ref c] (I, τ) = some (oO (.inl (iN (mxs (vset (s_U (g_S C)) (fnt (g_S C))) (2 ^ un (s_U (g_S C)))))), (I', τ')) ∧ PC I τ c Z B I' τ' C := by
  have h0 := h
  obtain ⟨g1, g2, g3, g4, g5, gx⟩ := h
  have c70 := g1.1
  have k12 := g1.2.1
  have e0 := g1.2.2.1
  have hl := g1.2.2.2.2.2.2.2.2.2.2.2.1
  have k8 := hl.2.1
  have lp := hl.2.2.2.2.2.1
  have lw := hl.2.2.2.2.2.2.1
  have lm := hl.2.2.2.2.2.2.2
  have w1 := g3.2.1.1
  have w2 := g3.2.1.2.1
  have w3 := g3.2.2.1.1
  have w4 := g3.2.2.1.2.1
  have wb := g3.1
  have hD6 := g1.2.2.2.2.2.2.2.2.2.2.2.2.2.2.2.2.1
  have f1 := hl.2.2.2.1
  have e6 := g1.2.2.2.2.2.2.2.1
  have k3 := hD6.2.1
  have q1 := c_firstNight (d := d + 39) (τ := τ) hl g2 g3
  have w8 := g3.2.2.2.2.1
  have hf : fnt (g_S C) < 1000000 := by unfold fnt; split <;> omega
  obtain ⟨J, q6, q7⟩ := c_tryingSets (d := d + 37) (τ := τ) hD6 lw g2.2.1 g3.2.2.1 (Or.inl (by omega)) hf
  refine ⟨J, τ, ?_, PC_fr h0 (fun a _ ha => q7 a (by omega)) Lq_rf⟩
  rw [c_165, b_165_0]
  simp (disch := omega) only [rd_I_mk, rd_R_mk, rd_L_mk, rd_D_mk, kd_mk, wr_I_mk, cp_mk, gd_true, bd_ret, bd_thr, vl_none, vl_some, iN_add, iN_mul, iN_sub, iN_lt, iN_eq, iN_n, iN_m1, iN_pred, vp_iN, K0_le, nr_b0, nr_b1, m1_lt, lt_m1, iN_ne_m1, m1_ne_iN, not_lt_z, true_and, and_true, and_self, or_true, true_or, or_false, false_or, if_true, if_false, ↓reduceIte, eq_self, up_at, up_a, up_k, cp_c, cp_b, Nat.zero_add, Nat.add_zero, Nat.sub_zero, Nat.le_refl, Nat.add_sub_cancel, fu_at, fu_ne, iN_nz, n10_f, n01_f, ofN, qq_at_100, k110b, Nat.lt_irrefl, Nat.not_lt_zero, ne_eq, not_false_eq_true, not_true_eq_false, k12, e0, e6, k8, f1, k3, q1, b_165_8, q6, b_165_9, oO]
theorem p_byLast (h : R_C I τ c Z B C) (x : Int32) : ∃ I' τ', CC (d + 40) 166 [.ref c, .int x] (I, τ) = some (oO (q_byLast (g_S C) x), (I', τ')) ∧ PC I τ c Z B I' τ' C := by
  have h0 := h
  obtain ⟨g1, g2, g3, g4, g5, gx⟩ := h
  have c70 := g1.1
  have k12 := g1.2.1
  have e0 := g1.2.2.1
  have hl := g1.2.2.2.2.2.2.2.2.2.2.2.1
  have k8 := hl.2.1
  have lp := hl.2.2.2.2.2.1
  have lw := hl.2.2.2.2.2.2.1
  have lm := hl.2.2.2.2.2.2.2
  have w1 := g3.2.1.1
  have w2 := g3.2.1.2.1
  have w3 := g3.2.2.1.1
  have w4 := g3.2.2.1.2.1
  have wb := g3.1
  have hD6 := g1.2.2.2.2.2.2.2.2.2.2.2.2.2.2.2.2.1
  have f1 := hl.2.2.2.1
  have kW := lw.2.1
  have e6 := g1.2.2.2.2.2.2.2.1
  have u2 := lw.2.2.1
  have v1 := lw.2.2.2.2.2.2.2.2.1
  have t0 := g2.2.1.1
  have k3 := hD6.2.1
  have q := c_reqR (d := d + 39) (I := I) (τ := τ) x (n := un (s_U (g_S C)))
  unfold q_byLast
  cases hx : inN (un (s_U (g_S C))) x with
  | false =>
    rw [hx] at q
    simp only [Bool.false_eq_true, if_false] at q
    refine ⟨_, _, ?_, PC_nw h0⟩
    rw [c_166, b_166_0]
    simp (disch := omega) only [rd_I_mk, rd_R_mk, rd_L_mk, rd_D_mk, kd_mk, wr_I_mk, cp_mk, gd_true, bd_ret, bd_thr, vl_none, vl_some, iN_add, iN_mul, iN_sub, iN_lt, iN_eq, iN_n, iN_m1, iN_pred, vp_iN, K0_le, nr_b0, nr_b1, m1_lt, lt_m1, iN_ne_m1, m1_ne_iN, not_lt_z, true_and, and_true, and_self, or_true, true_or, or_false, false_or, if_true, if_false, ↓reduceIte, eq_self, up_at, up_a, up_k, cp_c, cp_b, Nat.zero_add, Nat.add_zero, Nat.sub_zero, Nat.le_refl, Nat.add_sub_cancel, fu_at, fu_ne, iN_nz, n10_f, n01_f, ofN, qq_at_100, k110b, Nat.lt_irrefl, Nat.not_lt_zero, ne_eq, not_false_eq_true, not_true_eq_false, k12, e0, k8, f1, kW, u2, v1, t0, e6, k3, q, Bool.false_eq_true, oO]
  | true =>
    rw [hx, if_pos rfl] at q
    obtain ⟨k, hk, rfl⟩ := (inN_iff (by omega)).mp hx
    rw [tn_iN (by omega)]
    obtain ⟨J, q6, q7⟩ := c_positionAtRank (d := d + 37) (τ := τ) hD6 lw g2.2.1 g3.2.2.1 (Or.inl (by omega)) hk
    have hok := ow_lt hk
    have r3 : J (c + 1 + 7 + 1) (ow (s_U (g_S C)) k) = iN (w_id (ug (s_U (g_S C)) (ow (s_U (g_S C)) k))) := by rw [q7 _ (by omega)]; exact g2.2.1.2.2.1 _ hok
    refine ⟨J, τ, ?_, PC_fr h0 (fun a _ ha => q7 a (by omega)) Lq_rf⟩
    rw [c_166, b_166_0]
    simp (disch := omega) only [rd_I_mk, rd_R_mk, rd_L_mk, rd_D_mk, kd_mk, wr_I_mk, cp_mk, gd_true, bd_ret, bd_thr, vl_none, vl_some, iN_add, iN_mul, iN_sub, iN_lt, iN_eq, iN_n, iN_m1, iN_pred, vp_iN, K0_le, nr_b0, nr_b1, m1_lt, lt_m1, iN_ne_m1, m1_ne_iN, not_lt_z, true_and, and_true, and_self, or_true, true_or, or_false, false_or, if_true, if_false, ↓reduceIte, eq_self, up_at, up_a, up_k, cp_c, cp_b, Nat.zero_add, Nat.add_zero, Nat.sub_zero, Nat.le_refl, Nat.add_sub_cancel, fu_at, fu_ne, iN_nz, n10_f, n01_f, ofN, qq_at_100, k110b, Nat.lt_irrefl, Nat.not_lt_zero, ne_eq, not_false_eq_true, not_true_eq_false, k12, e0, k8, q, f1, kW, t0, u2, v1, b_166_6, e6, k3, q6, b_166_17, r3, oO]
theorem p_blocks (h : R_C I τ c Z B C) (x : Int32) : ∃ I' τ', CC (d + 40) 167 [.ref c, .int x] (I, τ) = some (oO (q_blocks (g_S C) x), (I', τ')) ∧ PC I τ c Z B I' τ' C := by
  have h0 := h
  obtain ⟨g1, g2, g3, g4, g5, gx⟩ := h
  have c70 := g1.1
  have k12 := g1.2.1
  have e0 := g1.2.2.1
  have hl := g1.2.2.2.2.2.2.2.2.2.2.2.1
  have k8 := hl.2.1
  have lp := hl.2.2.2.2.2.1
  have lw := hl.2.2.2.2.2.2.1
  have lm := hl.2.2.2.2.2.2.2
  have w1 := g3.2.1.1
  have w2 := g3.2.1.2.1
  have w3 := g3.2.2.1.1
  have w4 := g3.2.2.1.2.1
  have wb := g3.1
  have f2 := hl.2.2.2.2.1
  have kM := lm.2.1
  have m0 := lm.2.2.1
  have mk1 := lm.2.2.2.2.1
  have q := c_reqB (d := d + 38) (I := I) (τ := τ) (lo := 1) (hi := 20) x
  unfold q_blocks
  cases hx : inB 1 20 x with
  | false =>
    rw [hx] at q
    simp only [Bool.false_eq_true, if_false] at q
    refine ⟨_, _, ?_, PC_nw h0⟩
    rw [c_167, b_167_0]
    simp (disch := omega) only [rd_I_mk, rd_R_mk, rd_L_mk, rd_D_mk, kd_mk, wr_I_mk, cp_mk, gd_true, bd_ret, bd_thr, vl_none, vl_some, iN_add, iN_mul, iN_sub, iN_lt, iN_eq, iN_n, iN_m1, iN_pred, vp_iN, K0_le, nr_b0, nr_b1, m1_lt, lt_m1, iN_ne_m1, m1_ne_iN, not_lt_z, true_and, and_true, and_self, or_true, true_or, or_false, false_or, if_true, if_false, ↓reduceIte, eq_self, up_at, up_a, up_k, cp_c, cp_b, Nat.zero_add, Nat.add_zero, Nat.sub_zero, Nat.le_refl, Nat.add_sub_cancel, fu_at, fu_ne, iN_nz, n10_f, n01_f, ofN, qq_at_100, k110b, Nat.lt_irrefl, Nat.not_lt_zero, ne_eq, not_false_eq_true, not_true_eq_false, k12, e0, k8, f2, kM, m0, mk1, q, Bool.false_eq_true, oO]
  | true =>
    rw [hx, if_pos rfl] at q
    obtain ⟨k, hk1, hk, rfl⟩ := (inB_iff (by omega) (by omega)).mp hx
    have r3 := g2.2.2.1.1 k (by omega)
    rw [tn_iN (by omega)]
    refine ⟨I, τ, ?_, PC_rf h0⟩
    rw [c_167, b_167_0]
    simp (disch := omega) only [rd_I_mk, rd_R_mk, rd_L_mk, rd_D_mk, kd_mk, wr_I_mk, cp_mk, gd_true, bd_ret, bd_thr, vl_none, vl_some, iN_add, iN_mul, iN_sub, iN_lt, iN_eq, iN_n, iN_m1, iN_pred, vp_iN, K0_le, nr_b0, nr_b1, m1_lt, lt_m1, iN_ne_m1, m1_ne_iN, not_lt_z, true_and, and_true, and_self, or_true, true_or, or_false, false_or, if_true, if_false, ↓reduceIte, eq_self, up_at, up_a, up_k, cp_c, cp_b, Nat.zero_add, Nat.add_zero, Nat.sub_zero, Nat.le_refl, Nat.add_sub_cancel, fu_at, fu_ne, iN_nz, n10_f, n01_f, ofN, qq_at_100, k110b, Nat.lt_irrefl, Nat.not_lt_zero, ne_eq, not_false_eq_true, not_true_eq_false, k12, e0, k8, q, f2, kM, m0, mk1, b_167_4, r3, oO]
theorem p_fewest (h : R_C I τ c Z B C) (x : Int32) : ∃ I' τ', CC (d + 40) 168 [.ref c, .int x] (I, τ) = some (oO (q_fewest (g_S C) x), (I', τ')) ∧ PC I τ c Z B I' τ' C := by
  have h0 := h
  obtain ⟨g1, g2, g3, g4, g5, gx⟩ := h
  have c70 := g1.1
  have k12 := g1.2.1
  have e0 := g1.2.2.1
  have hl := g1.2.2.2.2.2.2.2.2.2.2.2.1
  have k8 := hl.2.1
  have lp := hl.2.2.2.2.2.1
  have lw := hl.2.2.2.2.2.2.1
  have lm := hl.2.2.2.2.2.2.2
  have w1 := g3.2.1.1
  have w2 := g3.2.1.2.1
  have w3 := g3.2.2.1.1
  have w4 := g3.2.2.1.2.1
  have wb := g3.1
  have hT7 := g1.2.2.2.2.2.2.2.2.2.2.2.2.2.2.2.2.2.1
  have f2 := hl.2.2.2.2.1
  have kM := lm.2.1
  have e7 := g1.2.2.2.2.2.2.2.2.1
  have m0 := lm.2.2.1
  have k10 := hT7.2.1
  have q := c_reqB (d := d + 38) (I := I) (τ := τ) (lo := 1) (hi := 60) x
  unfold q_fewest
  cases hx : inB 1 60 x with
  | false =>
    rw [hx] at q
    simp only [Bool.false_eq_true, if_false] at q
    refine ⟨_, _, ?_, PC_nw h0⟩
    rw [c_168, b_168_0]
    simp (disch := omega) only [rd_I_mk, rd_R_mk, rd_L_mk, rd_D_mk, kd_mk, wr_I_mk, cp_mk, gd_true, bd_ret, bd_thr, vl_none, vl_some, iN_add, iN_mul, iN_sub, iN_lt, iN_eq, iN_n, iN_m1, iN_pred, vp_iN, K0_le, nr_b0, nr_b1, m1_lt, lt_m1, iN_ne_m1, m1_ne_iN, not_lt_z, true_and, and_true, and_self, or_true, true_or, or_false, false_or, if_true, if_false, ↓reduceIte, eq_self, up_at, up_a, up_k, cp_c, cp_b, Nat.zero_add, Nat.add_zero, Nat.sub_zero, Nat.le_refl, Nat.add_sub_cancel, fu_at, fu_ne, iN_nz, n10_f, n01_f, ofN, qq_at_100, k110b, Nat.lt_irrefl, Nat.not_lt_zero, ne_eq, not_false_eq_true, not_true_eq_false, k12, e0, k8, f2, kM, m0, e7, k10, q, Bool.false_eq_true, oO]
  | true =>
    rw [hx, if_pos rfl] at q
    obtain ⟨k, hk1, hk, rfl⟩ := (inB_iff (by omega) (by omega)).mp hx
    rw [tn_iN (by omega)]
    obtain ⟨J, q6, q7, q8⟩ := c_fillTable (d := d + 38) (I := I) hT7 (s := c + 1 + 14 + 1) lm.2.2.2.2.1 (by omega) g2.2.2.1.1 (wS_M g3)
    have q9 := c_fewestByTable (d := d + 39) (I := J) (bl := m_bl (s_M (g_S C))) hT7 q7 (a := k) hk
    have hfr := PC_fr (I' := J) h0 (fun a _ ha => q8 a (by omega)) Lq_rf
    have hpay : ∀ (D : Nat) (K : qq_I) (ρ : qq_R), CC D 198 [.int (iN (fw (m_bl (s_M (g_S C))) 20 k))] (K, ρ) = if fw (m_bl (s_M (g_S C))) 20 k = 1000 then some (.inr 4, (nwI ρ K, nT ρ (201, 0) 6)) else some (.inl (some (.int (iN (fw (m_bl (s_M (g_S C))) 20 k)))), (K, ρ)) := fun D K ρ => by
      have := @fw_le (m_bl (s_M (g_S C))) 20 k
      have e : (iN (fw (m_bl (s_M (g_S C))) 20 k) = iN 1000) = (fw (m_bl (s_M (g_S C))) 20 k = 1000) := iN_eq (by omega) (by omega)
      rw [c_198, b_198_0, nw_mk]
      by_cases z : fw (m_bl (s_M (g_S C))) 20 k = 1000
      · rw [if_pos z, if_pos (e.mpr z)]
      · rw [if_neg z, if_neg (fun y => z (e.mp y))]
    have q10 := hpay (d + 39) J τ
    by_cases z : fw (m_bl (s_M (g_S C))) 20 k = 1000
    · rw [if_pos z] at q10 ⊢
      refine ⟨_, _, ?_, PC_thr hfr⟩
      rw [c_168, b_168_0]
      simp (disch := omega) only [rd_I_mk, rd_R_mk, rd_L_mk, rd_D_mk, kd_mk, wr_I_mk, cp_mk, gd_true, bd_ret, bd_thr, vl_none, vl_some, iN_add, iN_mul, iN_sub, iN_lt, iN_eq, iN_n, iN_m1, iN_pred, vp_iN, K0_le, nr_b0, nr_b1, m1_lt, lt_m1, iN_ne_m1, m1_ne_iN, not_lt_z, true_and, and_true, and_self, or_true, true_or, or_false, false_or, if_true, if_false, ↓reduceIte, eq_self, up_at, up_a, up_k, cp_c, cp_b, Nat.zero_add, Nat.add_zero, Nat.sub_zero, Nat.le_refl, Nat.add_sub_cancel, fu_at, fu_ne, iN_nz, n10_f, n01_f, ofN, qq_at_100, k110b, Nat.lt_irrefl, Nat.not_lt_zero, ne_eq, not_false_eq_true, not_true_eq_false, k12, e0, e7, k8, f2, kM, m0, k10, q, b_168_4, q6, b_168_11, q9, b_168_15, q10, oO]
    · rw [if_neg z] at q10 ⊢
      refine ⟨_, _, ?_, hfr⟩
      rw [c_168, b_168_0]
      simp (disch := omega) only [rd_I_mk, rd_R_mk, rd_L_mk, rd_D_mk, kd_mk, wr_I_mk, cp_mk, gd_true, bd_ret, bd_thr, vl_none, vl_some, iN_add, iN_mul, iN_sub, iN_lt, iN_eq, iN_n, iN_m1, iN_pred, vp_iN, K0_le, nr_b0, nr_b1, m1_lt, lt_m1, iN_ne_m1, m1_ne_iN, not_lt_z, true_and, and_true, and_self, or_true, true_or, or_false, false_or, if_true, if_false, ↓reduceIte, eq_self, up_at, up_a, up_k, cp_c, cp_b, Nat.zero_add, Nat.add_zero, Nat.sub_zero, Nat.le_refl, Nat.add_sub_cancel, fu_at, fu_ne, iN_nz, n10_f, n01_f, ofN, qq_at_100, k110b, Nat.lt_irrefl, Nat.not_lt_zero, ne_eq, not_false_eq_true, not_true_eq_false, k12, e0, e7, k8, f2, kM, m0, k10, q, b_168_4, q6, b_168_11, q9, b_168_15, q10, b_168_16, oO]
theorem p_fewestBySearch (h : R_C I τ c Z B C) (x : Int32) : ∃ I' τ', CC (d + 40) 169 [.ref c, .int x] (I, τ) = some (oO (q_fewest (g_S C) x), (I', τ')) ∧ PC I τ c Z B I' τ' C := by
  have h0 := h
  obtain ⟨g1, g2, g3, g4, g5, gx⟩ := h
  have c70 := g1.1
  have k12 := g1.2.1
  have e0 := g1.2.2.1
  have hl := g1.2.2.2.2.2.2.2.2.2.2.2.1
  have k8 := hl.2.1
  have lp := hl.2.2.2.2.2.1
  have lw := hl.2.2.2.2.2.2.1
  have lm := hl.2.2.2.2.2.2.2
  have w1 := g3.2.1.1
  have w2 := g3.2.1.2.1
  have w3 := g3.2.2.1.1
  have w4 := g3.2.2.1.2.1
  have wb := g3.1
  have hT7 := g1.2.2.2.2.2.2.2.2.2.2.2.2.2.2.2.2.2.1
  have f2 := hl.2.2.2.2.1
  have kM := lm.2.1
  have e7 := g1.2.2.2.2.2.2.2.2.1
  have m0 := lm.2.2.1
  have k10 := hT7.2.1
  have q := c_reqB (d := d + 38) (I := I) (τ := τ) (lo := 1) (hi := 60) x
  unfold q_fewest
  cases hx : inB 1 60 x with
  | false =>
    rw [hx] at q
    simp only [Bool.false_eq_true, if_false] at q
    refine ⟨_, _, ?_, PC_nw h0⟩
    rw [c_169, b_169_0]
    simp (disch := omega) only [rd_I_mk, rd_R_mk, rd_L_mk, rd_D_mk, kd_mk, wr_I_mk, cp_mk, gd_true, bd_ret, bd_thr, vl_none, vl_some, iN_add, iN_mul, iN_sub, iN_lt, iN_eq, iN_n, iN_m1, iN_pred, vp_iN, K0_le, nr_b0, nr_b1, m1_lt, lt_m1, iN_ne_m1, m1_ne_iN, not_lt_z, true_and, and_true, and_self, or_true, true_or, or_false, false_or, if_true, if_false, ↓reduceIte, eq_self, up_at, up_a, up_k, cp_c, cp_b, Nat.zero_add, Nat.add_zero, Nat.sub_zero, Nat.le_refl, Nat.add_sub_cancel, fu_at, fu_ne, iN_nz, n10_f, n01_f, ofN, qq_at_100, k110b, Nat.lt_irrefl, Nat.not_lt_zero, ne_eq, not_false_eq_true, not_true_eq_false, k12, e0, k8, f2, kM, m0, e7, k10, q, Bool.false_eq_true, oO]
  | true =>
    rw [hx, if_pos rfl] at q
    obtain ⟨k, hk1, hk, rfl⟩ := (inB_iff (by omega) (by omega)).mp hx
    rw [tn_iN (by omega)]
    obtain ⟨ρ, q6, q7⟩ := c_fewestBySearch (d := d + 17) (I := I) hT7 (s := c + 1 + 14 + 1) lm.2.2.2.2.1 g2.2.2.1.1 (wS_M g3) (a := k) hk
    have hfr := PC_fr (I' := I) h0 (fun a _ ha => rfl) q7
    have hpay : ∀ (D : Nat) (K : qq_I) (ρ : qq_R), CC D 198 [.int (iN (fw (m_bl (s_M (g_S C))) 20 k))] (K, ρ) = if fw (m_bl (s_M (g_S C))) 20 k = 1000 then some (.inr 4, (nwI ρ K, nT ρ (201, 0) 6)) else some (.inl (some (.int (iN (fw (m_bl (s_M (g_S C))) 20 k)))), (K, ρ)) := fun D K ρ => by
      have := @fw_le (m_bl (s_M (g_S C))) 20 k
      have e : (iN (fw (m_bl (s_M (g_S C))) 20 k) = iN 1000) = (fw (m_bl (s_M (g_S C))) 20 k = 1000) := iN_eq (by omega) (by omega)
      rw [c_198, b_198_0, nw_mk]
      by_cases z : fw (m_bl (s_M (g_S C))) 20 k = 1000
      · rw [if_pos z, if_pos (e.mpr z)]
      · rw [if_neg z, if_neg (fun y => z (e.mp y))]
    have q10 := hpay (d + 39) I ρ
    by_cases z : fw (m_bl (s_M (g_S C))) 20 k = 1000
    · rw [if_pos z] at q10 ⊢
      refine ⟨_, _, ?_, PC_thr hfr (by unfold tZ; rw [q7.2.1]; exact Nat.le_refl _) (by unfold tU; rw [q7.2.1]; exact Nat.le_refl _)⟩
      rw [c_169, b_169_0]
      simp (disch := omega) only [rd_I_mk, rd_R_mk, rd_L_mk, rd_D_mk, kd_mk, wr_I_mk, cp_mk, gd_true, bd_ret, bd_thr, vl_none, vl_some, iN_add, iN_mul, iN_sub, iN_lt, iN_eq, iN_n, iN_m1, iN_pred, vp_iN, K0_le, nr_b0, nr_b1, m1_lt, lt_m1, iN_ne_m1, m1_ne_iN, not_lt_z, true_and, and_true, and_self, or_true, true_or, or_false, false_or, if_true, if_false, ↓reduceIte, eq_self, up_at, up_a, up_k, cp_c, cp_b, Nat.zero_add, Nat.add_zero, Nat.sub_zero, Nat.le_refl, Nat.add_sub_cancel, fu_at, fu_ne, iN_nz, n10_f, n01_f, ofN, qq_at_100, k110b, Nat.lt_irrefl, Nat.not_lt_zero, ne_eq, not_false_eq_true, not_true_eq_false, k12, e0, e7, k8, f2, kM, m0, k10, q, b_169_4, q6, b_169_12, q10, oO]
    · rw [if_neg z] at q10 ⊢
      refine ⟨_, _, ?_, hfr⟩
      rw [c_169, b_169_0]
      simp (disch := omega) only [rd_I_mk, rd_R_mk, rd_L_mk, rd_D_mk, kd_mk, wr_I_mk, cp_mk, gd_true, bd_ret, bd_thr, vl_none, vl_some, iN_add, iN_mul, iN_sub, iN_lt, iN_eq, iN_n, iN_m1, iN_pred, vp_iN, K0_le, nr_b0, nr_b1, m1_lt, lt_m1, iN_ne_m1, m1_ne_iN, not_lt_z, true_and, and_true, and_self, or_true, true_or, or_false, false_or, if_true, if_false, ↓reduceIte, eq_self, up_at, up_a, up_k, cp_c, cp_b, Nat.zero_add, Nat.add_zero, Nat.sub_zero, Nat.le_refl, Nat.add_sub_cancel, fu_at, fu_ne, iN_nz, n10_f, n01_f, ofN, qq_at_100, k110b, Nat.lt_irrefl, Nat.not_lt_zero, ne_eq, not_false_eq_true, not_true_eq_false, k12, e0, e7, k8, f2, kM, m0, k10, q, b_169_4, q6, b_169_12, q10, b_169_13, oO]
theorem p_marbleTotal (h : R_C I τ c Z B C) : ∃ I' τ', CC (d + 40) 170 [.ref c] (I, τ) = some (oO (.inl (sA (fun w => iN (m_bl (s_M (g_S C)) w)) 20 + m_tr (s_M (g_S C)))), (I', τ')) ∧ PC I τ c Z B I' τ' C := by
  have h0 := h
  obtain ⟨g1, g2, g3, g4, g5, gx⟩ := h
  have c70 := g1.1
  have k12 := g1.2.1
  have e0 := g1.2.2.1
  have hl := g1.2.2.2.2.2.2.2.2.2.2.2.1
  have k8 := hl.2.1
  have lp := hl.2.2.2.2.2.1
  have lw := hl.2.2.2.2.2.2.1
  have lm := hl.2.2.2.2.2.2.2
  have w1 := g3.2.1.1
  have w2 := g3.2.1.2.1
  have w3 := g3.2.2.1.1
  have w4 := g3.2.2.1.2.1
  have wb := g3.1
  have f2 := hl.2.2.2.2.1
  have kM := lm.2.1
  have q1 := c_weightHeld (d := d + 38) (τ := τ) lm g2.2.2.1
  refine ⟨I, τ, ?_, PC_rf h0⟩
  rw [c_170, b_170_0]
  simp (disch := omega) only [rd_I_mk, rd_R_mk, rd_L_mk, rd_D_mk, kd_mk, wr_I_mk, cp_mk, gd_true, bd_ret, bd_thr, vl_none, vl_some, iN_add, iN_mul, iN_sub, iN_lt, iN_eq, iN_n, iN_m1, iN_pred, vp_iN, K0_le, nr_b0, nr_b1, m1_lt, lt_m1, iN_ne_m1, m1_ne_iN, not_lt_z, true_and, and_true, and_self, or_true, true_or, or_false, false_or, if_true, if_false, ↓reduceIte, eq_self, up_at, up_a, up_k, cp_c, cp_b, Nat.zero_add, Nat.add_zero, Nat.sub_zero, Nat.le_refl, Nat.add_sub_cancel, fu_at, fu_ne, iN_nz, n10_f, n01_f, ofN, qq_at_100, k110b, Nat.lt_irrefl, Nat.not_lt_zero, ne_eq, not_false_eq_true, not_true_eq_false, k12, e0, k8, f2, kM, q1, b_170_4, oO]
theorem p_byAccounts (h : R_C I τ c Z B C) : ∃ I' τ', CC (d + 40) 171 [.ref c] (I, τ) = some (oO (.inl (m_ad (s_M (g_S C)))), (I', τ')) ∧ PC I τ c Z B I' τ' C := by
  have h0 := h
  obtain ⟨g1, g2, g3, g4, g5, gx⟩ := h
  have c70 := g1.1
  have k12 := g1.2.1
  have e0 := g1.2.2.1
  have hl := g1.2.2.2.2.2.2.2.2.2.2.2.1
  have k8 := hl.2.1
  have lp := hl.2.2.2.2.2.1
  have lw := hl.2.2.2.2.2.2.1
  have lm := hl.2.2.2.2.2.2.2
  have w1 := g3.2.1.1
  have w2 := g3.2.1.2.1
  have w3 := g3.2.2.1.1
  have w4 := g3.2.2.1.2.1
  have wb := g3.1
  have f2 := hl.2.2.2.2.1
  have kM := lm.2.1
  have q1 := c_weightAdded (d := d + 38) (τ := τ) lm g2.2.2.1
  refine ⟨I, τ, ?_, PC_rf h0⟩
  rw [c_171, b_171_0]
  simp (disch := omega) only [rd_I_mk, rd_R_mk, rd_L_mk, rd_D_mk, kd_mk, wr_I_mk, cp_mk, gd_true, bd_ret, bd_thr, vl_none, vl_some, iN_add, iN_mul, iN_sub, iN_lt, iN_eq, iN_n, iN_m1, iN_pred, vp_iN, K0_le, nr_b0, nr_b1, m1_lt, lt_m1, iN_ne_m1, m1_ne_iN, not_lt_z, true_and, and_true, and_self, or_true, true_or, or_false, false_or, if_true, if_false, ↓reduceIte, eq_self, up_at, up_a, up_k, cp_c, cp_b, Nat.zero_add, Nat.add_zero, Nat.sub_zero, Nat.le_refl, Nat.add_sub_cancel, fu_at, fu_ne, iN_nz, n10_f, n01_f, ofN, qq_at_100, k110b, Nat.lt_irrefl, Nat.not_lt_zero, ne_eq, not_false_eq_true, not_true_eq_false, k12, e0, k8, f2, kM, q1, b_171_4, oO]
end AS
