/-! PUBLIC CALLS: undo, save, restore -/
section BK
variable {d : Nat} {I I' : qq_I} {τ τ' : qq_R} {c Z B : Nat} {C : sC}
def q_undo (C : sC) : qR := if (g_H C).length = 0 then .inr 3 else .inl (iN ((g_H C).length - 1))
def t_undo (C : sC) : sC := match (g_H C).getLast? with
  | none => C
  | some S => (S, (g_H C).dropLast, C.2.2)
theorem hc_out {a c Z : Nat} (hn : ¬ ((c ≤ a ∧ a < c + 238) ∨ Z ≤ a)) : a < c ∨ c + 238 ≤ a := by
  rcases Nat.lt_or_ge a c with q | q
  · exact Or.inl q
  · rcases Nat.lt_or_ge a (c + 238) with r | r
    · exact absurd (Or.inl ⟨q, r⟩) hn
    · exact Or.inr r
theorem p_undo (h : R_C I τ c Z B C) : ∃ I' τ', CC (d + 40) 188 [.ref c] (I, τ) = some (oO (q_undo C), (I', τ')) ∧ PC I τ c Z B I' τ' (t_undo C) := by
  have h0 := h
  obtain ⟨g1, g2, g3, g4, g5, gx⟩ := h
  have k12 := g1.2.1
  have e0 := g1.2.2.1
  have e4 := g1.2.2.2.2.2.1
  have hl := g1.2.2.2.2.2.2.2.2.2.2.2.1
  have hh := g1.2.2.2.2.2.2.2.2.2.2.2.2.2.2.1
  have k8 := hl.2.1
  have k4 := hh.2.1
  unfold q_undo t_undo
  rcases List.eq_nil_or_concat (g_H C) with hn | ⟨l, S, hn⟩
  · rw [hn] at g4 ⊢
    obtain ⟨o, o1, o2, o3, -⟩ := g4
    have o3 : I (c + 52) 2 = iN 0 := o3
    refine ⟨_, _, ?_, PC_nw h0⟩
    rw [c_188, b_188_0]
    simp (disch := omega) only [rd_I_mk, rd_R_mk, rd_L_mk, rd_D_mk, kd_mk, wr_I_mk, cp_mk, gd_true, bd_ret, bd_thr, vl_none, vl_some, iN_add, iN_mul, iN_sub, iN_lt, iN_eq, iN_n, iN_m1, iN_pred, vp_iN, K0_le, nr_b0, nr_b1, m1_lt, lt_m1, iN_ne_m1, m1_ne_iN, not_lt_z, true_and, and_true, and_self, or_true, true_or, or_false, false_or, if_true, if_false, ↓reduceIte, eq_self, up_at, up_a, up_k, cp_c, cp_b, Nat.zero_add, Nat.add_zero, Nat.sub_zero, Nat.le_refl, Nat.add_sub_cancel, fu_at, fu_ne, iN_nz, n10_f, n01_f, ofN, qq_at_100, k110b, Nat.lt_irrefl, Nat.not_lt_zero, ne_eq, not_false_eq_true, not_true_eq_false, k12, e4, k4, o3, nw_mk, oO, List.length_nil]
  · rw [List.concat_eq_append] at hn
    rw [hn] at g4 g5 ⊢
    have hw : wS B S := g5 S (List.mem_append_right _ (List.mem_singleton.mpr rfl))
    have o3 : I (c + 52) 2 = iN (l.length + 1) := by
      obtain ⟨o, o1, o2, o3, -⟩ := g4
      rw [o3, List.length_append]; rfl
    have hlen : (l ++ [S]).length = l.length + 1 := by rw [List.length_append]; rfl
    have hl8 : l.length + 1 ≤ 8 := by
      obtain ⟨o, o1, o2, o4, o5, -⟩ := g4
      rw [hlen] at o5; exact o5
    obtain ⟨J, s1, s2, s3, s4⟩ := c_takeBack (d := d + 37) hh hl (Or.inl (by omega)) g4 hw
    rw [hlen, if_neg (by omega), List.getLast?_append, List.getLast?_singleton]
    simp only [Option.some_or, List.dropLast_concat, Nat.add_sub_cancel]
    refine ⟨J, τ, ?_, R_C_gen h0 (Nat.le_refl _) hw.1 Tq_rf (fun a _ ha => s4 a (by omega) (by omega)) s3 hw s2 (fun T hT => g5 T (List.mem_append_left _ hT)), Gf_I (fun a ha => ?_), by omega, by omega⟩
    · have z : ¬ l.length + 1 = 0 := by omega
      rw [c_188, b_188_0]
      simp (disch := omega) only [rd_I_mk, rd_R_mk, rd_L_mk, rd_D_mk, kd_mk, wr_I_mk, cp_mk, gd_true, bd_ret, bd_thr, vl_none, vl_some, iN_add, iN_mul, iN_sub, iN_lt, iN_eq, iN_n, iN_m1, iN_pred, vp_iN, K0_le, nr_b0, nr_b1, m1_lt, lt_m1, iN_ne_m1, m1_ne_iN, not_lt_z, true_and, and_true, and_self, or_true, true_or, or_false, false_or, if_true, if_false, ↓reduceIte, eq_self, up_at, up_a, up_k, cp_c, cp_b, Nat.zero_add, Nat.add_zero, Nat.sub_zero, Nat.le_refl, Nat.add_sub_cancel, fu_at, fu_ne, iN_nz, n10_f, n01_f, ofN, qq_at_100, k110b, Nat.lt_irrefl, Nat.not_lt_zero, ne_eq, not_false_eq_true, not_true_eq_false, k12, e0, e4, k4, k8, o3, z, s1, b_188_13, oO]
    · have := hc_out ha
      exact s4 a (by omega) (by omega)
def t_save (C : sC) : sC := (g_S C, g_H C, some (g_S C), C.2.2.2)
theorem p_save (h : R_C I τ c Z B C) : ∃ I' τ', CC (d + 40) 189 [.ref c] (I, τ) = some (oO (.inl (iN (p_ns (s_P (g_S C))))), (I', τ')) ∧ PC I τ c Z B I' τ' (t_save C) := by
  have h0 := h
  have hz := R_C_Z h
  obtain ⟨g1, g2, g3, g4, g5, x1, x2, x3, x4, x5, x6, x7, x8, x9, x10, x11, x12, x13, x14, x15, x16, x17⟩ := h
  have c70 := g1.1
  have k12 := g1.2.1
  have e0 := g1.2.2.1
  have e2 := g1.2.2.2.2.1
  have hl := g1.2.2.2.2.2.2.2.2.2.2.2.1
  have hl2 := g1.2.2.2.2.2.2.2.2.2.2.2.2.2.1
  have k8 := hl.2.1
  have k82 := hl2.2.1
  have f0 := hl.2.2.1
  have k7 := hl.2.2.2.2.2.1.2.1
  obtain ⟨J, s1, s2, s3⟩ := c_copyRealm (d := d + 38) (τ := τ) hl2 hl g2 g3 (Or.inr (by omega))
  have r2 : J (c + 1 + 1) 2 = iN (p_ns (s_P (g_S C))) := by rw [s3 _ (by omega)]; exact g2.1.2.1
  have key : ∀ a, (a < c + 35 ∨ c + 52 ≤ a) → a ≠ c → up_2 J c 3 (iN 1) a = I a := fun a h1 h2 => by rw [up_c h2, s3 a (by omega)]
  have kc : ∀ k, k ≠ 3 → up_2 J c 3 (iN 1) c k = I c k := fun k hk => by rw [up_k hk, s3 c (by omega)]
  refine ⟨up_2 J c 3 (iN 1), τ, ?_, ⟨g1, R_R_same g2 (fun a _ _ => key a (by omega) (by omega)), g3, R_H_same g4 (fun a _ _ => key a (by omega) (by omega)), g5, x1, up_at, fun T hT => ?_, by rw [kc _ (by omega)]; exact x4, by rw [kc _ (by omega)]; exact x5, by rw [kc _ (by omega)]; exact x6, x7, x8, x9, x10, R_B_same x11 Tq_rf (fun a h1 _ => key a (by omega) (by omega)), x12, x13, R_B_same x14 Tq_rf (fun a h1 _ => key a (by omega) (by omega)), x15, x16, x17⟩, Gf_I (fun a ha => ?_), by omega, by omega⟩
  · rw [c_189, b_189_0]
    simp (disch := omega) only [rd_I_mk, rd_R_mk, rd_L_mk, rd_D_mk, kd_mk, wr_I_mk, cp_mk, gd_true, bd_ret, bd_thr, vl_none, vl_some, iN_add, iN_mul, iN_sub, iN_lt, iN_eq, iN_n, iN_m1, iN_pred, vp_iN, K0_le, nr_b0, nr_b1, m1_lt, lt_m1, iN_ne_m1, m1_ne_iN, not_lt_z, true_and, and_true, and_self, or_true, true_or, or_false, false_or, if_true, if_false, ↓reduceIte, eq_self, up_at, up_a, up_k, cp_c, cp_b, Nat.zero_add, Nat.add_zero, Nat.sub_zero, Nat.le_refl, Nat.add_sub_cancel, fu_at, fu_ne, iN_nz, n10_f, n01_f, ofN, qq_at_100, k110b, Nat.lt_irrefl, Nat.not_lt_zero, ne_eq, not_false_eq_true, not_true_eq_false, k12, e0, e2, k8, k82, s1, b_189_5, nk_b1, b_189_8, f0, k7, r2, oO]
  · have hT : some (g_S C) = some T := hT
    cases hT
    exact ⟨R_R_same s2 (fun a _ _ => up_c (by omega)), g3⟩
  · have := hc_out ha
    exact key a (by omega) (by omega)
def q_restore (C : sC) : qR := match g_Z C with
  | none => .inr 2
  | some T => .inl (iN (p_ns (s_P T)))
def t_restore (C : sC) : sC := match g_Z C with
  | none => C
  | some T => (T, [], C.2.2)
theorem p_restore (h : R_C I τ c Z B C) : ∃ I' τ', CC (d + 40) 190 [.ref c] (I, τ) = some (oO (q_restore C), (I', τ')) ∧ PC I τ c Z B I' τ' (t_restore C) := by
  have h0 := h
  have hz := R_C_Z h
  obtain ⟨g1, g2, g3, g4, g5, x1, x2, x3, -⟩ := h
  have k12 := g1.2.1
  have e0 := g1.2.2.1
  have e2 := g1.2.2.2.2.1
  have e4 := g1.2.2.2.2.2.1
  have hl := g1.2.2.2.2.2.2.2.2.2.2.2.1
  have hl2 := g1.2.2.2.2.2.2.2.2.2.2.2.2.2.1
  have hh := g1.2.2.2.2.2.2.2.2.2.2.2.2.2.2.1
  have k8 := hl.2.1
  have f0 := hl.2.2.1
  have k7 := hl.2.2.2.2.2.1.2.1
  have k4 := hh.2.1
  unfold q_restore t_restore
  cases hs : g_Z C with
  | none =>
    rw [hs] at x2
    have x2 : I c 3 = iN 0 := x2
    refine ⟨_, _, ?_, PC_nw h0⟩
    rw [c_190, b_190_0]
    simp (disch := omega) only [rd_I_mk, rd_R_mk, rd_L_mk, rd_D_mk, kd_mk, wr_I_mk, cp_mk, gd_true, bd_ret, bd_thr, vl_none, vl_some, iN_add, iN_mul, iN_sub, iN_lt, iN_eq, iN_n, iN_m1, iN_pred, vp_iN, K0_le, nr_b0, nr_b1, m1_lt, lt_m1, iN_ne_m1, m1_ne_iN, not_lt_z, true_and, and_true, and_self, or_true, true_or, or_false, false_or, if_true, if_false, ↓reduceIte, eq_self, up_at, up_a, up_k, cp_c, cp_b, Nat.zero_add, Nat.add_zero, Nat.sub_zero, Nat.le_refl, Nat.add_sub_cancel, fu_at, fu_ne, iN_nz, n10_f, n01_f, ofN, qq_at_100, k110b, Nat.lt_irrefl, Nat.not_lt_zero, ne_eq, not_false_eq_true, not_true_eq_false, k12, x2, nw_mk, oO]
  | some T =>
    rw [hs] at x2
    have x2 : I c 3 = iN 1 := x2
    obtain ⟨y1, y2⟩ := x3 T hs
    obtain ⟨J, s1, s2, s3⟩ := c_copyRealm (d := d + 38) (τ := τ) hl hl2 y1 y2 (Or.inl (by omega))
    obtain ⟨K, t1, t2, t3⟩ := c_forget (d := d + 39) (τ := τ) hh (R_H_same g4 (fun a _ _ => s3 a (by omega)))
    have r2 : K (c + 1 + 1) 2 = iN (p_ns (s_P T)) := by rw [t3 _ (by omega)]; exact s2.1.2.1
    refine ⟨K, τ, ?_, R_C_gen h0 (Nat.le_refl _) y2.1 Tq_rf (fun a _ ha => by rw [t3 a (by omega), s3 a (by omega)]) (R_R_same s2 (fun a _ _ => t3 a (by omega))) y2 t2 (fun T hT => absurd hT (List.not_mem_nil)), Gf_I (fun a ha => ?_), by omega, by omega⟩
    · rw [c_190, b_190_0]
      simp (disch := omega) only [rd_I_mk, rd_R_mk, rd_L_mk, rd_D_mk, kd_mk, wr_I_mk, cp_mk, gd_true, bd_ret, bd_thr, vl_none, vl_some, iN_add, iN_mul, iN_sub, iN_lt, iN_eq, iN_n, iN_m1, iN_pred, vp_iN, K0_le, nr_b0, nr_b1, m1_lt, lt_m1, iN_ne_m1, m1_ne_iN, not_lt_z, true_and, and_true, and_self, or_true, true_or, or_false, false_or, if_true, if_false, ↓reduceIte, eq_self, up_at, up_a, up_k, cp_c, cp_b, Nat.zero_add, Nat.add_zero, Nat.sub_zero, Nat.le_refl, Nat.add_sub_cancel, fu_at, fu_ne, iN_nz, n10_f, n01_f, ofN, qq_at_100, k110b, Nat.lt_irrefl, Nat.not_lt_zero, ne_eq, not_false_eq_true, not_true_eq_false, k12, e0, e2, e4, k8, k4, x2, s1, b_190_12, t1, b_190_15, f0, k7, r2, oO]
    · have := hc_out ha
      rw [t3 a (by omega), s3 a (by omega)]
end BK
