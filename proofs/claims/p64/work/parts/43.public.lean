/-! PUBLIC CALLS THAT CHANGE -/
theorem isF_ped {S : sS} : isF (ft_ped S) := by unfold ft_ped isF; split <;> omega
theorem isF_arr {S : sS} {x y : Int32} : isF (ft_arr S x y) := by unfold ft_arr isF; split <;> omega
theorem isF_sta {S : sS} {x y : Int32} : isF (ft_sta S x y) := by unfold ft_sta isF; repeat' split <;> try omega
theorem isF_hom {S : sS} {x y : Int32} : isF (ft_hom S x y) := by unfold ft_hom isF; split <;> omega
theorem isF_arg {S : sS} {x n y : Int32} : isF (ft_arg S x n y) := by unfold ft_arg isF; repeat' split <;> try omega
theorem isF_wri {S : sS} {x n y : Int32} : isF (ft_wri S x n y) := by
  unfold ft_wri
  split
  · unfold isF; split <;> omega
  · exact isF_arg
theorem isF_fol {S : sS} {x n y c : Int32} : isF (ft_fol S x n y c) := by
  unfold ft_fol
  split
  · unfold isF; split
    · omega
    · split <;> omega
  · exact isF_arg
theorem isF_blk {S : sS} {x y : Int32} : isF (ft_blk S x y) := by unfold ft_blk isF; repeat' split <;> try omega
theorem isF_hea {S : sS} {x : Int32} : isF (ft_hea S x) := by unfold ft_hea isF; repeat' split <;> try omega
theorem isF_nig {n : Int32} : isF (ft_nig n) := by unfold ft_nig isF; split <;> omega
theorem isF_pay {S : sS} {x : Int32} : isF (ft_pay S x) := by
  unfold ft_pay
  cases fiX (s_U S) x with
  | none => exact Or.inr (Or.inr (Or.inr (Or.inr (Or.inl rfl))))
  | some k =>
    show isF (if w_pd (ug (s_U S) k) = 0 then (if fw (m_bl (s_M S)) 20 (w_ba (ug (s_U S) k)) = 1000 then 117 else 45) else 115)
    unfold isF; repeat' split <;> try omega
def mO (g : Nat) (r : Int32) : qq_O := if g = 45 then .inl (some (.int r)) else .inr (ecx g)
def mS (g : Nat) (C : sC) (S' : sS) : sC := if g = 45 then (S', hiA (g_H C) (g_S C), C.2.2) else C
section PU
variable {d : Nat} {I : qq_I} {τ : qq_R} {c Z B : Nat} {C : sC}
theorem hiA_mem {l : List sS} {S T : sS} (h : T ∈ hiA l S) : T ∈ l ∨ T = S := by
  unfold hiA at h
  split at h
  · rcases List.mem_append.mp h with h | h
    · exact Or.inl h
    · exact Or.inr (List.mem_singleton.mp h)
  · rcases List.mem_append.mp h with h | h
    · exact Or.inl (List.mem_of_mem_drop h)
    · exact Or.inr (List.mem_singleton.mp h)
theorem mut_rem (h : R_C I τ c Z B C) : ∃ J, CC (d + 2) 45 [.ref (c + 52), .ref (c + 1)] (I, τ) = some (.inl none, (J, τ)) ∧ R_H J (c + 52) (hiA (g_H C) (g_S C)) ∧ Fr (c + 52) 138 I J ∧ R_R J (c + 1) (g_S C) := by
  obtain ⟨g1, g2, g3, g4, g5, gx⟩ := h
  obtain ⟨J, s1, s2, s3⟩ := c_remember (d := d) g1.2.2.2.2.2.2.2.2.2.2.2.2.2.2.1 g1.2.2.2.2.2.2.2.2.2.2.2.1 (Or.inl (by omega)) g4 g2 g3
  exact ⟨J, s1, s2, s3, R_R_same g2 (fun a _ _ => s3 a (by omega))⟩
theorem mut_fin (h : R_C I τ c Z B C) (hB : B + 660 ≤ 900000) {I0 J K : qq_I} {S' : sS} (hI0 : ∀ a, (a < c ∨ c + 238 ≤ a) → I a = I0 a) (hH : R_H J (c + 52) (hiA (g_H C) (g_S C))) (hF : Fr (c + 52) 138 I J) (hK : RO J (c + 1) (c + 196) B K S') : PC I0 τ c Z (B + 660) K τ (S', hiA (g_H C) (g_S C), C.2.2) := by
  have h0 := h
  obtain ⟨g1, g2, g3, g4, g5, gx⟩ := h
  obtain ⟨k1, k2, k3⟩ := hK
  refine ⟨R_C_gen h0 (Nat.le_add_right _ _) hB Tq_rf (fun a _ ha => by rw [k3 a (by omega) (by omega), hF a (by omega)]) k1 (wS_up k2 (by omega) hB) (R_H_same hH (fun a _ _ => k3 a (by omega) (by omega))) (fun T hT => ?_), ?_, by omega, by omega⟩
  · rcases hiA_mem hT with z | z
    · exact wS_up (g5 T z) (by omega) hB
    · rw [z]; exact wS_up g3 (by omega) hB
  · exact Gf_I (fun a ha => by
      have hc : a < c ∨ c + 238 ≤ a := by
        rcases Nat.lt_or_ge a c with q | q
        · exact Or.inl q
        · rcases Nat.lt_or_ge a (c + 238) with r | r
          · exact absurd (Or.inl ⟨q, r⟩) ha
          · exact Or.inr r
      rw [k3 a (by omega) (by omega), hF a (by omega)]
      exact hI0 a hc)
theorem R_C_up {B' : Nat} (h : R_C I τ c Z B C) (h1 : B ≤ B') (h2 : B' ≤ 900000) : R_C I τ c Z B' C := by
  have h0 := h
  obtain ⟨g1, g2, g3, g4, g5, gx⟩ := h
  exact R_C_gen h0 h1 h2 Tq_rf (fun _ _ _ => rfl) g2 (wS_up g3 h1 h2) g4 (fun T hT => wS_up (g5 T hT) h1 h2)
theorem hea_ch {S : sS} {x : Int32} : nr .char (o_hea S x).1 = True := by
  unfold o_hea
  cases fiX (s_U S) x with
  | none => exact nr_ch (by omega)
  | some k =>
    show nr .char (iN (heC S k)) = True
    refine nr_ch ?_
    unfold heC
    split <;> omega
theorem p_addPedestal (h : R_C I τ c Z B C) (hB : B + 660 ≤ 900000) :
    ∃ I' τ', CC (d + 40) 130 [.ref c] (I, τ) = some (mO (ft_ped (g_S C)) (o_ped (g_S C)).1, (I', τ')) ∧ PC I τ c Z (B + 660) I' τ' (mS (ft_ped (g_S C)) C (o_ped (g_S C)).2) := by
  have h0 := h
  obtain ⟨g1, g2, g3, g4, g5, gx⟩ := h
  have k12 := g1.2.1
  have e0 := g1.2.2.1
  have e4 := g1.2.2.2.2.2.1
  have hl := g1.2.2.2.2.2.2.2.2.2.2.2.1
  have hh := g1.2.2.2.2.2.2.2.2.2.2.2.2.2.2.1
  have k8 := hl.2.1
  have f0 := hl.2.2.1
  have f2 := hl.2.2.2.2.1
  have k7 := hl.2.2.2.2.2.1.2.1
  have k6 := hl.2.2.2.2.2.2.2.2.1
  have k4 := hh.2.1
  have q1 := c_pedestalFault (d := d + 39) (I := I) (τ := τ) hl g2 g3
  have q2 := c_raise (d := d + 39) (I := I) (τ := τ) (g := ft_ped (g_S C)) isF_ped
  unfold mO mS
  by_cases hf : ft_ped (g_S C) = 45
  · rw [if_pos hf] at q2
    rw [if_pos hf, if_pos hf]
    obtain ⟨J, s1, s2, s3, s4⟩ := mut_rem (d := d + 37) h0
    obtain ⟨K, t1, t2⟩ := r_ped (d := d + 39) (t := c + 196) hl s4 g3 hB hf
    refine ⟨K, τ, ?_, mut_fin h0 hB (fun _ _ => rfl) s2 s3 t2⟩
    rw [c_130, b_130_0]
    simp (disch := omega) only [rd_I_mk, rd_R_mk, rd_L_mk, rd_D_mk, kd_mk, wr_I_mk, cp_mk, gd_true, bd_ret, bd_thr, vl_none, vl_some, iN_add, iN_mul, iN_sub, iN_lt, iN_eq, iN_n, iN_m1, iN_pred, vp_iN, K0_le, nr_b0, nr_b1, m1_lt, lt_m1, iN_ne_m1, m1_ne_iN, not_lt_z, true_and, and_true, and_self, or_true, true_or, or_false, false_or, if_true, if_false, ↓reduceIte, eq_self, up_at, up_a, up_k, cp_c, cp_b, Nat.zero_add, Nat.add_zero, Nat.sub_zero, Nat.le_refl, Nat.add_sub_cancel, fu_at, fu_ne, iN_nz, n10_f, n01_f, ofN, qq_at_100, k110b, Nat.lt_irrefl, Nat.not_lt_zero, ne_eq, not_false_eq_true, not_true_eq_false, k12, e0, e4, k8, f0, f2, k7, k6, k4, q1, b_130_3, q2, b_130_4, s1, b_130_9, t1, b_130_13]
  · rw [if_neg hf] at q2
    rw [if_neg hf, if_neg hf]
    refine ⟨_, _, ?_, PC_nw (R_C_up h0 (Nat.le_add_right _ _) hB)⟩
    rw [c_130, b_130_0]
    simp (disch := omega) only [rd_I_mk, rd_R_mk, rd_L_mk, rd_D_mk, kd_mk, wr_I_mk, cp_mk, gd_true, bd_ret, bd_thr, vl_none, vl_some, iN_add, iN_mul, iN_sub, iN_lt, iN_eq, iN_n, iN_m1, iN_pred, vp_iN, K0_le, nr_b0, nr_b1, m1_lt, lt_m1, iN_ne_m1, m1_ne_iN, not_lt_z, true_and, and_true, and_self, or_true, true_or, or_false, false_or, if_true, if_false, ↓reduceIte, eq_self, up_at, up_a, up_k, cp_c, cp_b, Nat.zero_add, Nat.add_zero, Nat.sub_zero, Nat.le_refl, Nat.add_sub_cancel, fu_at, fu_ne, iN_nz, n10_f, n01_f, ofN, qq_at_100, k110b, Nat.lt_irrefl, Nat.not_lt_zero, ne_eq, not_false_eq_true, not_true_eq_false, k12, e0, k8, q1, b_130_3, q2]
theorem p_setArrow (h : R_C I τ c Z B C) (hB : B + 660 ≤ 900000) (x y : Int32) :
    ∃ I' τ', CC (d + 40) 131 [.ref c, .int x, .int y] (I, τ) = some (mO (ft_arr (g_S C) x y) (o_arr (g_S C) x y).1, (I', τ')) ∧ PC I τ c Z (B + 660) I' τ' (mS (ft_arr (g_S C) x y) C (o_arr (g_S C) x y).2) := by
  have h0 := h
  obtain ⟨g1, g2, g3, g4, g5, gx⟩ := h
  have k12 := g1.2.1
  have e0 := g1.2.2.1
  have e4 := g1.2.2.2.2.2.1
  have hl := g1.2.2.2.2.2.2.2.2.2.2.2.1
  have hh := g1.2.2.2.2.2.2.2.2.2.2.2.2.2.2.1
  have k8 := hl.2.1
  have f0 := hl.2.2.1
  have f2 := hl.2.2.2.2.1
  have k7 := hl.2.2.2.2.2.1.2.1
  have k6 := hl.2.2.2.2.2.2.2.2.1
  have k4 := hh.2.1
  have q1 := c_arrowFault (d := d + 38) (I := I) (τ := τ) hl g2 g3 x y
  have q2 := c_raise (d := d + 39) (I := I) (τ := τ) (g := ft_arr (g_S C) x y) isF_arr
  unfold mO mS
  by_cases hf : ft_arr (g_S C) x y = 45
  · rw [if_pos hf] at q2
    rw [if_pos hf, if_pos hf]
    obtain ⟨J, s1, s2, s3, s4⟩ := mut_rem (d := d + 37) h0
    obtain ⟨K, t1, t2⟩ := r_arr (d := d + 39) (t := c + 196) hl s4 g3 hB hf
    refine ⟨K, τ, ?_, mut_fin h0 hB (fun _ _ => rfl) s2 s3 t2⟩
    rw [c_131, b_131_0]
    simp (disch := omega) only [rd_I_mk, rd_R_mk, rd_L_mk, rd_D_mk, kd_mk, wr_I_mk, cp_mk, gd_true, bd_ret, bd_thr, vl_none, vl_some, iN_add, iN_mul, iN_sub, iN_lt, iN_eq, iN_n, iN_m1, iN_pred, vp_iN, K0_le, nr_b0, nr_b1, m1_lt, lt_m1, iN_ne_m1, m1_ne_iN, not_lt_z, true_and, and_true, and_self, or_true, true_or, or_false, false_or, if_true, if_false, ↓reduceIte, eq_self, up_at, up_a, up_k, cp_c, cp_b, Nat.zero_add, Nat.add_zero, Nat.sub_zero, Nat.le_refl, Nat.add_sub_cancel, fu_at, fu_ne, iN_nz, n10_f, n01_f, ofN, qq_at_100, k110b, Nat.lt_irrefl, Nat.not_lt_zero, ne_eq, not_false_eq_true, not_true_eq_false, k12, e0, e4, k8, f0, f2, k7, k6, k4, q1, b_131_5, q2, b_131_6, s1, b_131_11, t1, b_131_17]
  · rw [if_neg hf] at q2
    rw [if_neg hf, if_neg hf]
    refine ⟨_, _, ?_, PC_nw (R_C_up h0 (Nat.le_add_right _ _) hB)⟩
    rw [c_131, b_131_0]
    simp (disch := omega) only [rd_I_mk, rd_R_mk, rd_L_mk, rd_D_mk, kd_mk, wr_I_mk, cp_mk, gd_true, bd_ret, bd_thr, vl_none, vl_some, iN_add, iN_mul, iN_sub, iN_lt, iN_eq, iN_n, iN_m1, iN_pred, vp_iN, K0_le, nr_b0, nr_b1, m1_lt, lt_m1, iN_ne_m1, m1_ne_iN, not_lt_z, true_and, and_true, and_self, or_true, true_or, or_false, false_or, if_true, if_false, ↓reduceIte, eq_self, up_at, up_a, up_k, cp_c, cp_b, Nat.zero_add, Nat.add_zero, Nat.sub_zero, Nat.le_refl, Nat.add_sub_cancel, fu_at, fu_ne, iN_nz, n10_f, n01_f, ofN, qq_at_100, k110b, Nat.lt_irrefl, Nat.not_lt_zero, ne_eq, not_false_eq_true, not_true_eq_false, k12, e0, k8, q1, b_131_5, q2]
theorem p_addStatue (h : R_C I τ c Z B C) (hB : B + 660 ≤ 900000) (x y : Int32) :
    ∃ I' τ', CC (d + 40) 132 [.ref c, .int x, .int y] (I, τ) = some (mO (ft_sta (g_S C) x y) (o_sta (g_S C) x y).1, (I', τ')) ∧ PC I τ c Z (B + 660) I' τ' (mS (ft_sta (g_S C) x y) C (o_sta (g_S C) x y).2) := by
  have h0 := h
  obtain ⟨g1, g2, g3, g4, g5, gx⟩ := h
  have k12 := g1.2.1
  have e0 := g1.2.2.1
  have e4 := g1.2.2.2.2.2.1
  have hl := g1.2.2.2.2.2.2.2.2.2.2.2.1
  have hh := g1.2.2.2.2.2.2.2.2.2.2.2.2.2.2.1
  have k8 := hl.2.1
  have f0 := hl.2.2.1
  have f2 := hl.2.2.2.2.1
  have k7 := hl.2.2.2.2.2.1.2.1
  have k6 := hl.2.2.2.2.2.2.2.2.1
  have k4 := hh.2.1
  have q1 := c_statueFault (d := d + 38) (I := I) (τ := τ) hl g2 g3 x y
  have q2 := c_raise (d := d + 39) (I := I) (τ := τ) (g := ft_sta (g_S C) x y) isF_sta
  unfold mO mS
  by_cases hf : ft_sta (g_S C) x y = 45
  · rw [if_pos hf] at q2
    rw [if_pos hf, if_pos hf]
    obtain ⟨J, s1, s2, s3, s4⟩ := mut_rem (d := d + 37) h0
    obtain ⟨K, t1, t2⟩ := r_sta (d := d + 39) (t := c + 196) hl s4 g3 hB hf
    refine ⟨K, τ, ?_, mut_fin h0 hB (fun _ _ => rfl) s2 s3 t2⟩
    rw [c_132, b_132_0]
    simp (disch := omega) only [rd_I_mk, rd_R_mk, rd_L_mk, rd_D_mk, kd_mk, wr_I_mk, cp_mk, gd_true, bd_ret, bd_thr, vl_none, vl_some, iN_add, iN_mul, iN_sub, iN_lt, iN_eq, iN_n, iN_m1, iN_pred, vp_iN, K0_le, nr_b0, nr_b1, m1_lt, lt_m1, iN_ne_m1, m1_ne_iN, not_lt_z, true_and, and_true, and_self, or_true, true_or, or_false, false_or, if_true, if_false, ↓reduceIte, eq_self, up_at, up_a, up_k, cp_c, cp_b, Nat.zero_add, Nat.add_zero, Nat.sub_zero, Nat.le_refl, Nat.add_sub_cancel, fu_at, fu_ne, iN_nz, n10_f, n01_f, ofN, qq_at_100, k110b, Nat.lt_irrefl, Nat.not_lt_zero, ne_eq, not_false_eq_true, not_true_eq_false, k12, e0, e4, k8, f0, f2, k7, k6, k4, q1, b_132_5, q2, b_132_6, s1, b_132_11, t1, b_132_17]
  · rw [if_neg hf] at q2
    rw [if_neg hf, if_neg hf]
    refine ⟨_, _, ?_, PC_nw (R_C_up h0 (Nat.le_add_right _ _) hB)⟩
    rw [c_132, b_132_0]
    simp (disch := omega) only [rd_I_mk, rd_R_mk, rd_L_mk, rd_D_mk, kd_mk, wr_I_mk, cp_mk, gd_true, bd_ret, bd_thr, vl_none, vl_some, iN_add, iN_mul, iN_sub, iN_lt, iN_eq, iN_n, iN_m1, iN_pred, vp_iN, K0_le, nr_b0, nr_b1, m1_lt, lt_m1, iN_ne_m1, m1_ne_iN, not_lt_z, true_and, and_true, and_self, or_true, true_or, or_false, false_or, if_true, if_false, ↓reduceIte, eq_self, up_at, up_a, up_k, cp_c, cp_b, Nat.zero_add, Nat.add_zero, Nat.sub_zero, Nat.le_refl, Nat.add_sub_cancel, fu_at, fu_ne, iN_nz, n10_f, n01_f, ofN, qq_at_100, k110b, Nat.lt_irrefl, Nat.not_lt_zero, ne_eq, not_false_eq_true, not_true_eq_false, k12, e0, k8, q1, b_132_5, q2]
theorem p_setHome (h : R_C I τ c Z B C) (hB : B + 660 ≤ 900000) (x y : Int32) :
    ∃ I' τ', CC (d + 40) 133 [.ref c, .int x, .int y] (I, τ) = some (mO (ft_hom (g_S C) x y) (o_hom (g_S C) x y).1, (I', τ')) ∧ PC I τ c Z (B + 660) I' τ' (mS (ft_hom (g_S C) x y) C (o_hom (g_S C) x y).2) := by
  have h0 := h
  obtain ⟨g1, g2, g3, g4, g5, gx⟩ := h
  have k12 := g1.2.1
  have e0 := g1.2.2.1
  have e4 := g1.2.2.2.2.2.1
  have hl := g1.2.2.2.2.2.2.2.2.2.2.2.1
  have hh := g1.2.2.2.2.2.2.2.2.2.2.2.2.2.2.1
  have k8 := hl.2.1
  have f0 := hl.2.2.1
  have f2 := hl.2.2.2.2.1
  have k7 := hl.2.2.2.2.2.1.2.1
  have k6 := hl.2.2.2.2.2.2.2.2.1
  have k4 := hh.2.1
  have q1 := c_homeFault (d := d + 38) (I := I) (τ := τ) hl g2 g3 x y
  have q2 := c_raise (d := d + 39) (I := I) (τ := τ) (g := ft_hom (g_S C) x y) isF_hom
  unfold mO mS
  by_cases hf : ft_hom (g_S C) x y = 45
  · rw [if_pos hf] at q2
    rw [if_pos hf, if_pos hf]
    obtain ⟨J, s1, s2, s3, s4⟩ := mut_rem (d := d + 37) h0
    obtain ⟨K, t1, t2⟩ := r_hom (d := d + 39) (t := c + 196) hl s4 g3 hB hf
    refine ⟨K, τ, ?_, mut_fin h0 hB (fun _ _ => rfl) s2 s3 t2⟩
    rw [c_133, b_133_0]
    simp (disch := omega) only [rd_I_mk, rd_R_mk, rd_L_mk, rd_D_mk, kd_mk, wr_I_mk, cp_mk, gd_true, bd_ret, bd_thr, vl_none, vl_some, iN_add, iN_mul, iN_sub, iN_lt, iN_eq, iN_n, iN_m1, iN_pred, vp_iN, K0_le, nr_b0, nr_b1, m1_lt, lt_m1, iN_ne_m1, m1_ne_iN, not_lt_z, true_and, and_true, and_self, or_true, true_or, or_false, false_or, if_true, if_false, ↓reduceIte, eq_self, up_at, up_a, up_k, cp_c, cp_b, Nat.zero_add, Nat.add_zero, Nat.sub_zero, Nat.le_refl, Nat.add_sub_cancel, fu_at, fu_ne, iN_nz, n10_f, n01_f, ofN, qq_at_100, k110b, Nat.lt_irrefl, Nat.not_lt_zero, ne_eq, not_false_eq_true, not_true_eq_false, k12, e0, e4, k8, f0, f2, k7, k6, k4, q1, b_133_5, q2, b_133_6, s1, b_133_11, t1, b_133_17]
  · rw [if_neg hf] at q2
    rw [if_neg hf, if_neg hf]
    refine ⟨_, _, ?_, PC_nw (R_C_up h0 (Nat.le_add_right _ _) hB)⟩
    rw [c_133, b_133_0]
    simp (disch := omega) only [rd_I_mk, rd_R_mk, rd_L_mk, rd_D_mk, kd_mk, wr_I_mk, cp_mk, gd_true, bd_ret, bd_thr, vl_none, vl_some, iN_add, iN_mul, iN_sub, iN_lt, iN_eq, iN_n, iN_m1, iN_pred, vp_iN, K0_le, nr_b0, nr_b1, m1_lt, lt_m1, iN_ne_m1, m1_ne_iN, not_lt_z, true_and, and_true, and_self, or_true, true_or, or_false, false_or, if_true, if_false, ↓reduceIte, eq_self, up_at, up_a, up_k, cp_c, cp_b, Nat.zero_add, Nat.add_zero, Nat.sub_zero, Nat.le_refl, Nat.add_sub_cancel, fu_at, fu_ne, iN_nz, n10_f, n01_f, ofN, qq_at_100, k110b, Nat.lt_irrefl, Nat.not_lt_zero, ne_eq, not_false_eq_true, not_true_eq_false, k12, e0, k8, q1, b_133_5, q2]
theorem p_issueWrit (h : R_C I τ c Z B C) (hB : B + 660 ≤ 900000) (x n y : Int32) :
    ∃ I' τ', CC (d + 40) 134 [.ref c, .int x, .int n, .int y] (I, τ) = some (mO (ft_wri (g_S C) x n y) (o_wri (g_S C) x n y).1, (I', τ')) ∧ PC I τ c Z (B + 660) I' τ' (mS (ft_wri (g_S C) x n y) C (o_wri (g_S C) x n y).2) := by
  have h0 := h
  obtain ⟨g1, g2, g3, g4, g5, gx⟩ := h
  have k12 := g1.2.1
  have e0 := g1.2.2.1
  have e4 := g1.2.2.2.2.2.1
  have hl := g1.2.2.2.2.2.2.2.2.2.2.2.1
  have hh := g1.2.2.2.2.2.2.2.2.2.2.2.2.2.2.1
  have k8 := hl.2.1
  have f0 := hl.2.2.1
  have f2 := hl.2.2.2.2.1
  have k7 := hl.2.2.2.2.2.1.2.1
  have k6 := hl.2.2.2.2.2.2.2.2.1
  have k4 := hh.2.1
  have q1 := c_writFault (d := d + 37) (I := I) (τ := τ) hl g2 g3 x n y
  have q2 := c_raise (d := d + 39) (I := I) (τ := τ) (g := ft_wri (g_S C) x n y) isF_wri
  unfold mO mS
  by_cases hf : ft_wri (g_S C) x n y = 45
  · rw [if_pos hf] at q2
    rw [if_pos hf, if_pos hf]
    obtain ⟨J, s1, s2, s3, s4⟩ := mut_rem (d := d + 37) h0
    obtain ⟨K, t1, t2⟩ := r_wri (d := d + 38) (t := c + 196) hl s4 g3 hB hf
    refine ⟨K, τ, ?_, mut_fin h0 hB (fun _ _ => rfl) s2 s3 t2⟩
    rw [c_134, b_134_0]
    simp (disch := omega) only [rd_I_mk, rd_R_mk, rd_L_mk, rd_D_mk, kd_mk, wr_I_mk, cp_mk, gd_true, bd_ret, bd_thr, vl_none, vl_some, iN_add, iN_mul, iN_sub, iN_lt, iN_eq, iN_n, iN_m1, iN_pred, vp_iN, K0_le, nr_b0, nr_b1, m1_lt, lt_m1, iN_ne_m1, m1_ne_iN, not_lt_z, true_and, and_true, and_self, or_true, true_or, or_false, false_or, if_true, if_false, ↓reduceIte, eq_self, up_at, up_a, up_k, cp_c, cp_b, Nat.zero_add, Nat.add_zero, Nat.sub_zero, Nat.le_refl, Nat.add_sub_cancel, fu_at, fu_ne, iN_nz, n10_f, n01_f, ofN, qq_at_100, k110b, Nat.lt_irrefl, Nat.not_lt_zero, ne_eq, not_false_eq_true, not_true_eq_false, k12, e0, e4, k8, f0, f2, k7, k6, k4, q1, b_134_6, q2, b_134_7, s1, b_134_12, t1, b_134_19]
  · rw [if_neg hf] at q2
    rw [if_neg hf, if_neg hf]
    refine ⟨_, _, ?_, PC_nw (R_C_up h0 (Nat.le_add_right _ _) hB)⟩
    rw [c_134, b_134_0]
    simp (disch := omega) only [rd_I_mk, rd_R_mk, rd_L_mk, rd_D_mk, kd_mk, wr_I_mk, cp_mk, gd_true, bd_ret, bd_thr, vl_none, vl_some, iN_add, iN_mul, iN_sub, iN_lt, iN_eq, iN_n, iN_m1, iN_pred, vp_iN, K0_le, nr_b0, nr_b1, m1_lt, lt_m1, iN_ne_m1, m1_ne_iN, not_lt_z, true_and, and_true, and_self, or_true, true_or, or_false, false_or, if_true, if_false, ↓reduceIte, eq_self, up_at, up_a, up_k, cp_c, cp_b, Nat.zero_add, Nat.add_zero, Nat.sub_zero, Nat.le_refl, Nat.add_sub_cancel, fu_at, fu_ne, iN_nz, n10_f, n01_f, ofN, qq_at_100, k110b, Nat.lt_irrefl, Nat.not_lt_zero, ne_eq, not_false_eq_true, not_true_eq_false, k12, e0, k8, q1, b_134_6, q2]
theorem p_issueFollower (h : R_C I τ c Z B C) (hB : B + 660 ≤ 900000) (x n y z : Int32) :
    ∃ I' τ', CC (d + 40) 135 [.ref c, .int x, .int n, .int y, .int z] (I, τ) = some (mO (ft_fol (g_S C) x n y z) (o_fol (g_S C) x n y z).1, (I', τ')) ∧ PC I τ c Z (B + 660) I' τ' (mS (ft_fol (g_S C) x n y z) C (o_fol (g_S C) x n y z).2) := by
  have h0 := h
  obtain ⟨g1, g2, g3, g4, g5, gx⟩ := h
  have k12 := g1.2.1
  have e0 := g1.2.2.1
  have e4 := g1.2.2.2.2.2.1
  have hl := g1.2.2.2.2.2.2.2.2.2.2.2.1
  have hh := g1.2.2.2.2.2.2.2.2.2.2.2.2.2.2.1
  have k8 := hl.2.1
  have f0 := hl.2.2.1
  have f2 := hl.2.2.2.2.1
  have k7 := hl.2.2.2.2.2.1.2.1
  have k6 := hl.2.2.2.2.2.2.2.2.1
  have k4 := hh.2.1
  have q1 := c_followerFault (d := d + 37) (I := I) (τ := τ) hl g2 g3 x n y z
  have q2 := c_raise (d := d + 39) (I := I) (τ := τ) (g := ft_fol (g_S C) x n y z) isF_fol
  unfold mO mS
  by_cases hf : ft_fol (g_S C) x n y z = 45
  · rw [if_pos hf] at q2
    rw [if_pos hf, if_pos hf]
    obtain ⟨J, s1, s2, s3, s4⟩ := mut_rem (d := d + 37) h0
    obtain ⟨K, t1, t2⟩ := r_fol (d := d + 38) (t := c + 196) hl s4 g3 hB hf
    refine ⟨K, τ, ?_, mut_fin h0 hB (fun _ _ => rfl) s2 s3 t2⟩
    rw [c_135, b_135_0]
    simp (disch := omega) only [rd_I_mk, rd_R_mk, rd_L_mk, rd_D_mk, kd_mk, wr_I_mk, cp_mk, gd_true, bd_ret, bd_thr, vl_none, vl_some, iN_add, iN_mul, iN_sub, iN_lt, iN_eq, iN_n, iN_m1, iN_pred, vp_iN, K0_le, nr_b0, nr_b1, m1_lt, lt_m1, iN_ne_m1, m1_ne_iN, not_lt_z, true_and, and_true, and_self, or_true, true_or, or_false, false_or, if_true, if_false, ↓reduceIte, eq_self, up_at, up_a, up_k, cp_c, cp_b, Nat.zero_add, Nat.add_zero, Nat.sub_zero, Nat.le_refl, Nat.add_sub_cancel, fu_at, fu_ne, iN_nz, n10_f, n01_f, ofN, qq_at_100, k110b, Nat.lt_irrefl, Nat.not_lt_zero, ne_eq, not_false_eq_true, not_true_eq_false, k12, e0, e4, k8, f0, f2, k7, k6, k4, q1, b_135_7, q2, b_135_8, s1, b_135_13, t1, b_135_20]
  · rw [if_neg hf] at q2
    rw [if_neg hf, if_neg hf]
    refine ⟨_, _, ?_, PC_nw (R_C_up h0 (Nat.le_add_right _ _) hB)⟩
    rw [c_135, b_135_0]
    simp (disch := omega) only [rd_I_mk, rd_R_mk, rd_L_mk, rd_D_mk, kd_mk, wr_I_mk, cp_mk, gd_true, bd_ret, bd_thr, vl_none, vl_some, iN_add, iN_mul, iN_sub, iN_lt, iN_eq, iN_n, iN_m1, iN_pred, vp_iN, K0_le, nr_b0, nr_b1, m1_lt, lt_m1, iN_ne_m1, m1_ne_iN, not_lt_z, true_and, and_true, and_self, or_true, true_or, or_false, false_or, if_true, if_false, ↓reduceIte, eq_self, up_at, up_a, up_k, cp_c, cp_b, Nat.zero_add, Nat.add_zero, Nat.sub_zero, Nat.le_refl, Nat.add_sub_cancel, fu_at, fu_ne, iN_nz, n10_f, n01_f, ofN, qq_at_100, k110b, Nat.lt_irrefl, Nat.not_lt_zero, ne_eq, not_false_eq_true, not_true_eq_false, k12, e0, k8, q1, b_135_7, q2]
theorem p_addBlocks (h : R_C I τ c Z B C) (hB : B + 660 ≤ 900000) (x y : Int32) :
    ∃ I' τ', CC (d + 40) 136 [.ref c, .int x, .int y] (I, τ) = some (mO (ft_blk (g_S C) x y) (o_blk (g_S C) x y).1, (I', τ')) ∧ PC I τ c Z (B + 660) I' τ' (mS (ft_blk (g_S C) x y) C (o_blk (g_S C) x y).2) := by
  have h0 := h
  obtain ⟨g1, g2, g3, g4, g5, gx⟩ := h
  have k12 := g1.2.1
  have e0 := g1.2.2.1
  have e4 := g1.2.2.2.2.2.1
  have hl := g1.2.2.2.2.2.2.2.2.2.2.2.1
  have hh := g1.2.2.2.2.2.2.2.2.2.2.2.2.2.2.1
  have k8 := hl.2.1
  have f0 := hl.2.2.1
  have f2 := hl.2.2.2.2.1
  have k7 := hl.2.2.2.2.2.1.2.1
  have k6 := hl.2.2.2.2.2.2.2.2.1
  have k4 := hh.2.1
  have q1 := c_blockFault (d := d + 38) (I := I) (τ := τ) hl g2 g3 x y
  have q2 := c_raise (d := d + 39) (I := I) (τ := τ) (g := ft_blk (g_S C) x y) isF_blk
  unfold mO mS
  by_cases hf : ft_blk (g_S C) x y = 45
  · rw [if_pos hf] at q2
    rw [if_pos hf, if_pos hf]
    obtain ⟨J, s1, s2, s3, s4⟩ := mut_rem (d := d + 37) h0
    obtain ⟨K, t1, t2⟩ := r_blk (d := d + 39) (t := c + 196) hl s4 g3 hB hf
    refine ⟨K, τ, ?_, mut_fin h0 hB (fun _ _ => rfl) s2 s3 t2⟩
    rw [c_136, b_136_0]
    simp (disch := omega) only [rd_I_mk, rd_R_mk, rd_L_mk, rd_D_mk, kd_mk, wr_I_mk, cp_mk, gd_true, bd_ret, bd_thr, vl_none, vl_some, iN_add, iN_mul, iN_sub, iN_lt, iN_eq, iN_n, iN_m1, iN_pred, vp_iN, K0_le, nr_b0, nr_b1, m1_lt, lt_m1, iN_ne_m1, m1_ne_iN, not_lt_z, true_and, and_true, and_self, or_true, true_or, or_false, false_or, if_true, if_false, ↓reduceIte, eq_self, up_at, up_a, up_k, cp_c, cp_b, Nat.zero_add, Nat.add_zero, Nat.sub_zero, Nat.le_refl, Nat.add_sub_cancel, fu_at, fu_ne, iN_nz, n10_f, n01_f, ofN, qq_at_100, k110b, Nat.lt_irrefl, Nat.not_lt_zero, ne_eq, not_false_eq_true, not_true_eq_false, k12, e0, e4, k8, f0, f2, k7, k6, k4, q1, b_136_5, q2, b_136_6, s1, b_136_11, t1, b_136_17]
  · rw [if_neg hf] at q2
    rw [if_neg hf, if_neg hf]
    refine ⟨_, _, ?_, PC_nw (R_C_up h0 (Nat.le_add_right _ _) hB)⟩
    rw [c_136, b_136_0]
    simp (disch := omega) only [rd_I_mk, rd_R_mk, rd_L_mk, rd_D_mk, kd_mk, wr_I_mk, cp_mk, gd_true, bd_ret, bd_thr, vl_none, vl_some, iN_add, iN_mul, iN_sub, iN_lt, iN_eq, iN_n, iN_m1, iN_pred, vp_iN, K0_le, nr_b0, nr_b1, m1_lt, lt_m1, iN_ne_m1, m1_ne_iN, not_lt_z, true_and, and_true, and_self, or_true, true_or, or_false, false_or, if_true, if_false, ↓reduceIte, eq_self, up_at, up_a, up_k, cp_c, cp_b, Nat.zero_add, Nat.add_zero, Nat.sub_zero, Nat.le_refl, Nat.add_sub_cancel, fu_at, fu_ne, iN_nz, n10_f, n01_f, ofN, qq_at_100, k110b, Nat.lt_irrefl, Nat.not_lt_zero, ne_eq, not_false_eq_true, not_true_eq_false, k12, e0, k8, q1, b_136_5, q2]
theorem p_hear (h : R_C I τ c Z B C) (hB : B + 660 ≤ 900000) (x : Int32) :
    ∃ I' τ', CC (d + 40) 138 [.ref c, .int x] (I, τ) = some (mO (ft_hea (g_S C) x) (o_hea (g_S C) x).1, (I', τ')) ∧ PC I τ c Z (B + 660) I' τ' (mS (ft_hea (g_S C) x) C (o_hea (g_S C) x).2) := by
  have h0 := h
  obtain ⟨g1, g2, g3, g4, g5, gx⟩ := h
  have k12 := g1.2.1
  have e0 := g1.2.2.1
  have e4 := g1.2.2.2.2.2.1
  have hl := g1.2.2.2.2.2.2.2.2.2.2.2.1
  have hh := g1.2.2.2.2.2.2.2.2.2.2.2.2.2.2.1
  have k8 := hl.2.1
  have f0 := hl.2.2.1
  have f2 := hl.2.2.2.2.1
  have k7 := hl.2.2.2.2.2.1.2.1
  have k6 := hl.2.2.2.2.2.2.2.2.1
  have k4 := hh.2.1
  have q1 := c_hearFault (d := d + 38) (I := I) (τ := τ) hl g2 g3 x
  have q2 := c_raise (d := d + 39) (I := I) (τ := τ) (g := ft_hea (g_S C) x) isF_hea
  unfold mO mS
  by_cases hf : ft_hea (g_S C) x = 45
  · rw [if_pos hf] at q2
    rw [if_pos hf, if_pos hf]
    obtain ⟨J, s1, s2, s3, s4⟩ := mut_rem (d := d + 37) h0
    obtain ⟨K, t1, t2⟩ := r_hea (d := d + 35) (t := c + 196) hl s4 g3 hB hf
    refine ⟨K, τ, ?_, mut_fin h0 hB (fun _ _ => rfl) s2 s3 t2⟩
    rw [c_138, b_138_0]
    simp (disch := omega) only [rd_I_mk, rd_R_mk, rd_L_mk, rd_D_mk, kd_mk, wr_I_mk, cp_mk, gd_true, bd_ret, bd_thr, vl_none, vl_some, iN_add, iN_mul, iN_sub, iN_lt, iN_eq, iN_n, iN_m1, iN_pred, vp_iN, K0_le, nr_b0, nr_b1, m1_lt, lt_m1, iN_ne_m1, m1_ne_iN, not_lt_z, true_and, and_true, and_self, or_true, true_or, or_false, false_or, if_true, if_false, ↓reduceIte, eq_self, up_at, up_a, up_k, cp_c, cp_b, Nat.zero_add, Nat.add_zero, Nat.sub_zero, Nat.le_refl, Nat.add_sub_cancel, fu_at, fu_ne, iN_nz, n10_f, n01_f, ofN, qq_at_100, k110b, Nat.lt_irrefl, Nat.not_lt_zero, ne_eq, not_false_eq_true, not_true_eq_false, k12, e0, e4, k8, f0, f2, k7, k6, k4, q1, b_138_4, q2, b_138_5, s1, b_138_10, t1, b_138_14, hea_ch]
  · rw [if_neg hf] at q2
    rw [if_neg hf, if_neg hf]
    refine ⟨_, _, ?_, PC_nw (R_C_up h0 (Nat.le_add_right _ _) hB)⟩
    rw [c_138, b_138_0]
    simp (disch := omega) only [rd_I_mk, rd_R_mk, rd_L_mk, rd_D_mk, kd_mk, wr_I_mk, cp_mk, gd_true, bd_ret, bd_thr, vl_none, vl_some, iN_add, iN_mul, iN_sub, iN_lt, iN_eq, iN_n, iN_m1, iN_pred, vp_iN, K0_le, nr_b0, nr_b1, m1_lt, lt_m1, iN_ne_m1, m1_ne_iN, not_lt_z, true_and, and_true, and_self, or_true, true_or, or_false, false_or, if_true, if_false, ↓reduceIte, eq_self, up_at, up_a, up_k, cp_c, cp_b, Nat.zero_add, Nat.add_zero, Nat.sub_zero, Nat.le_refl, Nat.add_sub_cancel, fu_at, fu_ne, iN_nz, n10_f, n01_f, ofN, qq_at_100, k110b, Nat.lt_irrefl, Nat.not_lt_zero, ne_eq, not_false_eq_true, not_true_eq_false, k12, e0, k8, q1, b_138_4, q2]
theorem p_passNights (h : R_C I τ c Z B C) (hB : B + 660 ≤ 900000) (x : Int32) :
    ∃ I' τ', CC (d + 40) 139 [.ref c, .int x] (I, τ) = some (mO (ft_nig x) (o_nig (g_S C) x).1, (I', τ')) ∧ PC I τ c Z (B + 660) I' τ' (mS (ft_nig x) C (o_nig (g_S C) x).2) := by
  have h0 := h
  obtain ⟨g1, g2, g3, g4, g5, gx⟩ := h
  have k12 := g1.2.1
  have e0 := g1.2.2.1
  have e4 := g1.2.2.2.2.2.1
  have hl := g1.2.2.2.2.2.2.2.2.2.2.2.1
  have hh := g1.2.2.2.2.2.2.2.2.2.2.2.2.2.2.1
  have k8 := hl.2.1
  have f0 := hl.2.2.1
  have f2 := hl.2.2.2.2.1
  have k7 := hl.2.2.2.2.2.1.2.1
  have k6 := hl.2.2.2.2.2.2.2.2.1
  have k4 := hh.2.1
  have q1 := c_nightFault (d := d + 38) (I := I) (τ := τ) (b := c + 1) x
  have q2 := c_raise (d := d + 39) (I := I) (τ := τ) (g := ft_nig x) isF_nig
  unfold mO mS
  by_cases hf : ft_nig x = 45
  · rw [if_pos hf] at q2
    rw [if_pos hf, if_pos hf]
    obtain ⟨J, s1, s2, s3, s4⟩ := mut_rem (d := d + 37) h0
    obtain ⟨K, t1, t2⟩ := r_nig (d := d + 35) (t := c + 196) hl s4 g3 hB hf
    refine ⟨K, τ, ?_, mut_fin h0 hB (fun _ _ => rfl) s2 s3 t2⟩
    rw [c_139, b_139_0]
    simp (disch := omega) only [rd_I_mk, rd_R_mk, rd_L_mk, rd_D_mk, kd_mk, wr_I_mk, cp_mk, gd_true, bd_ret, bd_thr, vl_none, vl_some, iN_add, iN_mul, iN_sub, iN_lt, iN_eq, iN_n, iN_m1, iN_pred, vp_iN, K0_le, nr_b0, nr_b1, m1_lt, lt_m1, iN_ne_m1, m1_ne_iN, not_lt_z, true_and, and_true, and_self, or_true, true_or, or_false, false_or, if_true, if_false, ↓reduceIte, eq_self, up_at, up_a, up_k, cp_c, cp_b, Nat.zero_add, Nat.add_zero, Nat.sub_zero, Nat.le_refl, Nat.add_sub_cancel, fu_at, fu_ne, iN_nz, n10_f, n01_f, ofN, qq_at_100, k110b, Nat.lt_irrefl, Nat.not_lt_zero, ne_eq, not_false_eq_true, not_true_eq_false, k12, e0, e4, k8, f0, f2, k7, k6, k4, q1, b_139_4, q2, b_139_5, s1, b_139_10, t1, b_139_14]
  · rw [if_neg hf] at q2
    rw [if_neg hf, if_neg hf]
    refine ⟨_, _, ?_, PC_nw (R_C_up h0 (Nat.le_add_right _ _) hB)⟩
    rw [c_139, b_139_0]
    simp (disch := omega) only [rd_I_mk, rd_R_mk, rd_L_mk, rd_D_mk, kd_mk, wr_I_mk, cp_mk, gd_true, bd_ret, bd_thr, vl_none, vl_some, iN_add, iN_mul, iN_sub, iN_lt, iN_eq, iN_n, iN_m1, iN_pred, vp_iN, K0_le, nr_b0, nr_b1, m1_lt, lt_m1, iN_ne_m1, m1_ne_iN, not_lt_z, true_and, and_true, and_self, or_true, true_or, or_false, false_or, if_true, if_false, ↓reduceIte, eq_self, up_at, up_a, up_k, cp_c, cp_b, Nat.zero_add, Nat.add_zero, Nat.sub_zero, Nat.le_refl, Nat.add_sub_cancel, fu_at, fu_ne, iN_nz, n10_f, n01_f, ofN, qq_at_100, k110b, Nat.lt_irrefl, Nat.not_lt_zero, ne_eq, not_false_eq_true, not_true_eq_false, k12, e0, k8, q1, b_139_4, q2]
theorem p_payBail (h : R_C I τ c Z B C) (hB : B + 660 ≤ 900000) (x : Int32) :
    ∃ I' τ', CC (d + 40) 137 [.ref c, .int x] (I, τ) = some (mO (ft_pay (g_S C) x) (o_pay (g_S C) x).1, (I', τ')) ∧ PC I τ c Z (B + 660) I' τ' (mS (ft_pay (g_S C) x) C (o_pay (g_S C) x).2) := by
  have h0 := h
  obtain ⟨g1, g2, g3, g4, g5, gx⟩ := h
  have k12 := g1.2.1
  have e0 := g1.2.2.1
  have e4 := g1.2.2.2.2.2.1
  have e7 := g1.2.2.2.2.2.2.2.2.1
  have hl := g1.2.2.2.2.2.2.2.2.2.2.2.1
  have hh := g1.2.2.2.2.2.2.2.2.2.2.2.2.2.2.1
  have ht := g1.2.2.2.2.2.2.2.2.2.2.2.2.2.2.2.2.2.1
  have k8 := hl.2.1
  have k4 := hh.2.1
  obtain ⟨L, q1, q3⟩ := c_payFault (d := d + 37) hl ht (Or.inl (by omega)) g2 g3 x
  have q2 := c_raise (d := d + 39) (I := L) (τ := τ) (g := ft_pay (g_S C) x) isF_pay
  have hL : R_C L τ c Z B C := R_C_fr h0 Tq_rf (fun a _ ha => q3 a (by omega))
  unfold mO mS
  by_cases hf : ft_pay (g_S C) x = 45
  · rw [if_pos hf] at q2
    rw [if_pos hf, if_pos hf]
    obtain ⟨J, s1, s2, s3, s4⟩ := mut_rem (d := d + 37) hL
    obtain ⟨K, t1, t2⟩ := r_pay (d := d + 37) (t := c + 196) hl ht (Or.inl (by omega)) s4 g3 hB hf
    refine ⟨K, τ, ?_, mut_fin hL hB (fun a ha => q3 a (by omega)) s2 s3 t2⟩
    rw [c_137, b_137_0]
    simp (disch := omega) only [rd_I_mk, rd_R_mk, rd_L_mk, rd_D_mk, kd_mk, wr_I_mk, cp_mk, gd_true, bd_ret, bd_thr, vl_none, vl_some, iN_add, iN_mul, iN_sub, iN_lt, iN_eq, iN_n, iN_m1, iN_pred, vp_iN, K0_le, nr_b0, nr_b1, m1_lt, lt_m1, iN_ne_m1, m1_ne_iN, not_lt_z, true_and, and_true, and_self, or_true, true_or, or_false, false_or, if_true, if_false, ↓reduceIte, eq_self, up_at, up_a, up_k, cp_c, cp_b, Nat.zero_add, Nat.add_zero, Nat.sub_zero, Nat.le_refl, Nat.add_sub_cancel, fu_at, fu_ne, iN_nz, n10_f, n01_f, ofN, qq_at_100, k110b, Nat.lt_irrefl, Nat.not_lt_zero, ne_eq, not_false_eq_true, not_true_eq_false, k12, e0, e4, e7, k8, k4, q1, b_137_6, q2, b_137_7, s1, b_137_12, t1, b_137_18]
  · rw [if_neg hf] at q2
    rw [if_neg hf, if_neg hf]
    have hp := PC_nw (R_C_up hL (Nat.le_add_right _ 660) hB)
    refine ⟨_, _, ?_, ⟨hp.1, Gf_tr (Gf_I (A := fun a => (c ≤ a ∧ a < c + 238) ∨ Z ≤ a) (fun a ha => q3 a (by
      rcases Nat.lt_or_ge a c with q | q
      · omega
      · rcases Nat.lt_or_ge a (c + 238) with r | r
        · exact absurd (Or.inl ⟨q, r⟩) ha
        · omega))) hp.2.1 (fun _ _ z => z) (fun _ _ z => z), hp.2.2⟩⟩
    rw [c_137, b_137_0]
    simp (disch := omega) only [rd_I_mk, rd_R_mk, rd_L_mk, rd_D_mk, kd_mk, wr_I_mk, cp_mk, gd_true, bd_ret, bd_thr, vl_none, vl_some, iN_add, iN_mul, iN_sub, iN_lt, iN_eq, iN_n, iN_m1, iN_pred, vp_iN, K0_le, nr_b0, nr_b1, m1_lt, lt_m1, iN_ne_m1, m1_ne_iN, not_lt_z, true_and, and_true, and_self, or_true, true_or, or_false, false_or, if_true, if_false, ↓reduceIte, eq_self, up_at, up_a, up_k, cp_c, cp_b, Nat.zero_add, Nat.add_zero, Nat.sub_zero, Nat.le_refl, Nat.add_sub_cancel, fu_at, fu_ne, iN_nz, n10_f, n01_f, ofN, qq_at_100, k110b, Nat.lt_irrefl, Nat.not_lt_zero, ne_eq, not_false_eq_true, not_true_eq_false, k12, e0, e7, k8, q1, b_137_6, q2]
end PU
