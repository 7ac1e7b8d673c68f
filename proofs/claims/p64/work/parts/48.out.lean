/-! PUBLIC CALLS: what is written, typed, told, taken back -/
theorem L_C_T2 {τ τ' : qq_R} {c : Nat} (h : L_C τ c) (hs : Tr c 221 τ τ') (h3 : tK τ' (c + 223) = tK τ (c + 223)) (h4 : Tr (c + 224) 12 τ τ') : L_C τ' c := by
  obtain ⟨h0, h1, h2, h3', h4', h5, h6, h7, h8, h9, h10, g1, g2, g3, g4, g5, g6, g7, g8⟩ := h
  refine ⟨h0, ?_, ?_, ?_, ?_, ?_, ?_, ?_, ?_, ?_, ?_, L_R_T g1 (Tr_wd hs (by omega) (by omega)), L_R_T g2 (Tr_wd hs (by omega) (by omega)), L_R_T g3 (Tr_wd hs (by omega) (by omega)), L_H_T g4 (Tr_wd hs (by omega) (by omega)), L_L_T g5 (Tr_wd hs (by omega) (by omega)), L_D_T g6 (Tr_wd hs (by omega) (by omega)), L_T_T g7 (Tr_wd hs (by omega) (by omega)), L_S_T g8 (Tr_wd hs (by omega) (by omega)) h3 h4⟩ <;> first | (rw [Tr_K hs (by omega) (by omega)]; assumption) | (rw [Tr_R hs (by omega) (by omega)]; assumption)
theorem R_B_gf {A : Nat → Prop} {I I' : qq_I} {τ τ' : qq_R} {s Z : Nat} {l : List Nat} (h : R_B I τ s Z l) (hG : Gf A I τ I' τ') (h1 : ¬ A s) (h2 : ¬ A (tR τ s 0)) : R_B I' τ' s Z l ∧ tR τ' s 0 = tR τ s 0 := by
  obtain ⟨s70, sZ, hZ, g1, g2, g3, v, n, g4, g5, g6, g7, g8, g9, hv, gi, gl⟩ := h
  have e1 := Gf_II hG (a := s) (by omega) h1
  have e2 := Gf_R hG (a := s) (k := 0) (by omega) h1
  have hv2 : tR τ s 0 < tZ τ := by omega
  have e3 := Gf_II hG hv2 h2
  rw [g4] at e3
  refine ⟨⟨s70, sZ, Nat.le_trans hZ hG.1, (Gf_K hG (by omega)).trans g1, by rw [e1]; exact g2, by rw [e1]; exact g3, v, n, e2.trans g4, (Gf_K hG hv).trans g5, g6, g7, g8, g9, Nat.lt_of_lt_of_le hv hG.1, fun i hi => by rw [e3]; exact gi i hi, fun i hi => by rw [e3]; exact gl i hi⟩, e2⟩
section OU
variable {d : Nat} {I I' : qq_I} {τ τ' : qq_R} {c Z B : Nat} {C : sC}
/-- a builder has changed, by k appends at most -/
theorem R_C_sb {A : Nat → Prop} (h : R_C I τ c Z B C) (hG : Gf A I τ I' τ') (hA : ∀ a, a < tZ τ → A a → a = c + 221 ∨ a = c + 222 ∨ a = c + 236 ∨ a = c + 237 ∨ Z ≤ a) {T O : List Nat} (hT : R_B I' τ' (c + 221) Z T) (hT1 : T.length ≤ 60) (hT2 : ∀ x ∈ T, 32 ≤ x ∧ x ≤ 126) (hO : R_B I' τ' (c + 236) Z O) (hO1 : O.length ≤ 60) (hO2 : ∀ x ∈ O, x < 128) (hne : tR τ' (c + 221) 0 ≠ tR τ' (c + 236) 0) :
    R_C I' τ' c Z B (g_S C, g_H C, g_Z C, T, O, g_E C, g_F C, g_G C) := by
  have hz := R_C_Z h
  obtain ⟨g1, g2, g3, g4, g5, x1, x2, x3, x4, x5, x6, x7, x8, x9, x10, x11, x12, x13, x14, x15, x16, x17⟩ := h
  have hI : ∀ a, a < c + 221 → I' a = I a := fun a ha => Gf_II hG (by omega) (fun z => by have := hA a (by omega) z; omega)
  have hKR : ∀ a, a < tZ τ → ¬ A a → tK τ' a = tK τ a ∧ ∀ k, tR τ' a k = tR τ a k := fun a ha hn => ⟨Gf_K hG ha, fun k => Gf_R hG ha hn⟩
  have ec := hI c (by omega)
  refine ⟨L_C_T2 g1 (fun a h1 h2 => hKR a (by omega) (fun z => by have := hA a (by omega) z; omega)) (Gf_K hG (by omega)) (fun a h1 h2 => hKR a (by omega) (fun z => by have := hA a (by omega) z; omega)), R_R_same g2 (fun a _ _ => hI a (by omega)), g3, R_H_same g4 (fun a _ _ => hI a (by omega)), g5, x1, by rw [ec]; exact x2, fun T hT2 => ⟨R_R_same (x3 T hT2).1 (fun a _ _ => hI a (by omega)), (x3 T hT2).2⟩, by rw [ec]; exact x4, by rw [ec]; exact x5, by rw [ec]; exact x6, x7, x8, x9, x10, hT, hT1, hT2, hO, hO1, hO2, hne⟩
def cO (C : sC) (l : List Nat) : sC := (g_S C, g_H C, g_Z C, g_T C, l, g_E C, g_F C, g_G C)
def cT (C : sC) (l : List Nat) : sC := (g_S C, g_H C, g_Z C, l, g_O C, g_E C, g_F C, g_G C)
theorem R_B_v {s : Nat} {l : List Nat} (h : R_B I τ s Z l) : (tR τ s 0 = s + 1 ∨ Z ≤ tR τ s 0) ∧ tR τ s 0 < tZ τ := by
  obtain ⟨s70, sZ, hZ, g1, g2, g3, v, n, g4, g5, g6, g7, g8, g9, hv, gi, gl⟩ := h
  rw [g4]; exact ⟨g9, hv⟩
theorem PC_out (h : R_C I τ c Z B C) {k : Nat} (hk : k ≤ 3) {l : List Nat} (hP : PB I τ (c + 236) Z k I' τ' l) (hl : l.length ≤ 60) (hc : ∀ x ∈ l, x < 128) : PC I τ c Z B I' τ' (cO C l) := by
  have h0 := h
  have hz := R_C_Z h
  obtain ⟨p1, p2, p3, p4, p5⟩ := hP
  obtain ⟨g1, g2, g3, g4, g5, x1, x2, x3, x4, x5, x6, x7, x8, x9, x10, x11, x12, x13, x14, x15, x16, x17⟩ := h
  obtain ⟨v1, v2⟩ := R_B_v x14
  obtain ⟨v3, v4⟩ := R_B_v x11
  obtain ⟨q1, q2⟩ := R_B_gf x11 p2 (by omega) (by omega)
  refine ⟨R_C_sb h0 p2 (fun a ha z => by omega) q1 x12 x13 p1 hl hc (by omega), Gf_wd p2 (fun a ha z => by omega), by omega, by omega⟩
theorem PC_tape (h : R_C I τ c Z B C) {k : Nat} (hk : k ≤ 3) {l : List Nat} (hP : PB I τ (c + 221) Z k I' τ' l) (hl : l.length ≤ 60) (hc : ∀ x ∈ l, 32 ≤ x ∧ x ≤ 126) : PC I τ c Z B I' τ' (cT C l) := by
  have h0 := h
  have hz := R_C_Z h
  obtain ⟨p1, p2, p3, p4, p5⟩ := hP
  obtain ⟨g1, g2, g3, g4, g5, x1, x2, x3, x4, x5, x6, x7, x8, x9, x10, x11, x12, x13, x14, x15, x16, x17⟩ := h
  obtain ⟨v1, v2⟩ := R_B_v x14
  obtain ⟨v3, v4⟩ := R_B_v x11
  obtain ⟨q1, q2⟩ := R_B_gf x14 p2 (by omega) (by omega)
  refine ⟨R_C_sb h0 p2 (fun a ha z => by omega) p1 hl hc q1 x15 x16 (by omega), Gf_wd p2 (fun a ha z => by omega), by omega, by omega⟩
def q_type (C : sC) (x : Int32) : qR := if inB 32 126 x = true then (if (g_T C).length < 60 then .inl (iN ((g_T C).length + 1)) else .inr 2) else .inr 1
def t_type (C : sC) (x : Int32) : sC := if inB 32 126 x = true then (if (g_T C).length < 60 then cT C (g_T C ++ [tn x]) else C) else C
theorem p_type (h : R_C I τ c Z B C) (x : Int32) : ∃ I' τ', CC (d + 40) 183 [.ref c, .int x] (I, τ) = some (oO (q_type C x), (I', τ')) ∧ PC I τ c Z B I' τ' (t_type C x) := by
  have h0 := h
  obtain ⟨g1, g2, g3, g4, g5, x1, x2, x3, x4, x5, x6, x7, x8, x9, x10, x11, x12, x13, x14, x15, x16, x17⟩ := h
  have k12 := g1.2.1
  have e8 := g1.2.2.2.2.2.2.2.2.2.1
  have lS := g1.2.2.2.2.2.2.2.2.2.2.2.2.2.2.2.2.2.2
  have k9 := lS.2.1
  have s0 : tR τ (c + 220) 0 = c + 221 := lS.2.2.1
  have k2 : tK τ (c + 221) = (2, 0) := x11.2.2.2.1
  have q1 := c_length (d := d + 37) x11
  unfold q_type t_type
  have q := c_reqB (d := d + 38) (I := I) (τ := τ) (lo := 32) (hi := 126) x
  cases hx : inB 32 126 x with
  | false =>
    rw [hx] at q
    simp only [Bool.false_eq_true, if_false] at q
    refine ⟨_, _, ?_, PC_nw h0⟩
    rw [c_183, b_183_0]
    simp (disch := omega) only [rd_I_mk, rd_R_mk, rd_L_mk, rd_D_mk, kd_mk, wr_I_mk, cp_mk, gd_true, bd_ret, bd_thr, vl_none, vl_some, iN_add, iN_mul, iN_sub, iN_lt, iN_eq, iN_n, iN_m1, iN_pred, vp_iN, K0_le, nr_b0, nr_b1, m1_lt, lt_m1, iN_ne_m1, m1_ne_iN, not_lt_z, true_and, and_true, and_self, or_true, true_or, or_false, false_or, if_true, if_false, ↓reduceIte, eq_self, up_at, up_a, up_k, cp_c, cp_b, Nat.zero_add, Nat.add_zero, Nat.sub_zero, Nat.le_refl, Nat.add_sub_cancel, fu_at, fu_ne, iN_nz, n10_f, n01_f, ofN, qq_at_100, k110b, Nat.lt_irrefl, Nat.not_lt_zero, ne_eq, not_false_eq_true, not_true_eq_false, q, Bool.false_eq_true, oO]
  | true =>
    rw [hx, if_pos rfl] at q
    obtain ⟨k, hk1, hk, rfl⟩ := (inB_iff (by omega) (by omega)).mp hx
    rw [if_pos rfl, if_pos rfl, tn_iN (by omega)]
    by_cases z : (g_T C).length < 60
    · rw [if_pos z, if_pos z]
      have q98 : CC (d + 39) 98 [.ref (c + 220)] (I, τ) = some (.inl (some (.int (iN 0))), (I, τ)) := by
        rw [c_98, b_98_0]
        simp (disch := omega) only [rd_I_mk, rd_R_mk, rd_L_mk, rd_D_mk, kd_mk, wr_I_mk, cp_mk, gd_true, bd_ret, bd_thr, vl_none, vl_some, iN_add, iN_mul, iN_sub, iN_lt, iN_eq, iN_n, iN_m1, iN_pred, vp_iN, K0_le, nr_b0, nr_b1, m1_lt, lt_m1, iN_ne_m1, m1_ne_iN, not_lt_z, true_and, and_true, and_self, or_true, true_or, or_false, false_or, if_true, if_false, ↓reduceIte, eq_self, up_at, up_a, up_k, cp_c, cp_b, Nat.zero_add, Nat.add_zero, Nat.sub_zero, Nat.le_refl, Nat.add_sub_cancel, fu_at, fu_ne, iN_nz, n10_f, n01_f, ofN, qq_at_100, k110b, Nat.lt_irrefl, Nat.not_lt_zero, ne_eq, not_false_eq_true, not_true_eq_false, k9, s0, k2, q1, b_98_3, z, b_98_8]
      obtain ⟨J, ρ, q2, q3⟩ := c_appendChar (d := d + 34) x11 (by omega) (c := k) (by omega)
      have hl : (g_T C ++ [k]).length = (g_T C).length + 1 := by rw [List.length_append]; rfl
      have q4 := c_length (d := d + 37) q3.1
      rw [hl] at q4
      have hz := R_C_Z h0
      have hPC : PC I τ c Z B J ρ (cT C (g_T C ++ [k])) := PC_tape h0 (by omega) q3 (by omega) (fun y hy => by
        rcases List.mem_append.mp hy with hy | hy
        · exact x13 y hy
        · rw [List.mem_singleton] at hy; omega)
      have k9' := hPC.1.1.2.2.2.2.2.2.2.2.2.2.2.2.2.2.2.2.2.2.2.1
      have s0' : tR ρ (c + 220) 0 = c + 221 := hPC.1.1.2.2.2.2.2.2.2.2.2.2.2.2.2.2.2.2.2.2.2.2.1
      have k2' : tK ρ (c + 221) = (2, 0) := q3.1.2.2.2.1
      refine ⟨J, ρ, ?_, hPC⟩
      have q99 : CC (d + 39) 99 [.ref (c + 220), .int (iN k)] (I, τ) = some (.inl (some (.int (iN ((g_T C).length + 1)))), (J, ρ)) := by
        rw [c_99, b_99_0]
        simp (disch := omega) only [rd_I_mk, rd_R_mk, rd_L_mk, rd_D_mk, kd_mk, wr_I_mk, cp_mk, gd_true, bd_ret, bd_thr, vl_none, vl_some, iN_add, iN_mul, iN_sub, iN_lt, iN_eq, iN_n, iN_m1, iN_pred, vp_iN, K0_le, nr_b0, nr_b1, m1_lt, lt_m1, iN_ne_m1, m1_ne_iN, not_lt_z, true_and, and_true, and_self, or_true, true_or, or_false, false_or, if_true, if_false, ↓reduceIte, eq_self, up_at, up_a, up_k, cp_c, cp_b, Nat.zero_add, Nat.add_zero, Nat.sub_zero, Nat.le_refl, Nat.add_sub_cancel, fu_at, fu_ne, iN_nz, n10_f, n01_f, ofN, qq_at_100, k110b, Nat.lt_irrefl, Nat.not_lt_zero, ne_eq, not_false_eq_true, not_true_eq_false, k9, s0, k2, q2, b_99_4, k9', s0', k2', q4, b_99_8]
      rw [c_183, b_183_0]
      simp (disch := omega) only [rd_I_mk, rd_R_mk, rd_L_mk, rd_D_mk, kd_mk, wr_I_mk, cp_mk, gd_true, bd_ret, bd_thr, vl_none, vl_some, iN_add, iN_mul, iN_sub, iN_lt, iN_eq, iN_n, iN_m1, iN_pred, vp_iN, K0_le, nr_b0, nr_b1, m1_lt, lt_m1, iN_ne_m1, m1_ne_iN, not_lt_z, true_and, and_true, and_self, or_true, true_or, or_false, false_or, if_true, if_false, ↓reduceIte, eq_self, up_at, up_a, up_k, cp_c, cp_b, Nat.zero_add, Nat.add_zero, Nat.sub_zero, Nat.le_refl, Nat.add_sub_cancel, fu_at, fu_ne, iN_nz, n10_f, n01_f, ofN, qq_at_100, k110b, Nat.lt_irrefl, Nat.not_lt_zero, ne_eq, not_false_eq_true, not_true_eq_false, q, b_183_4, k12, e8, k9, q98, b_183_7, q99, b_183_16, oO]
    · rw [if_neg z, if_neg z]
      have q98 : CC (d + 39) 98 [.ref (c + 220)] (I, τ) = some (.inl (some (.int (iN 1))), (I, τ)) := by
        rw [c_98, b_98_0]
        simp (disch := omega) only [rd_I_mk, rd_R_mk, rd_L_mk, rd_D_mk, kd_mk, wr_I_mk, cp_mk, gd_true, bd_ret, bd_thr, vl_none, vl_some, iN_add, iN_mul, iN_sub, iN_lt, iN_eq, iN_n, iN_m1, iN_pred, vp_iN, K0_le, nr_b0, nr_b1, m1_lt, lt_m1, iN_ne_m1, m1_ne_iN, not_lt_z, true_and, and_true, and_self, or_true, true_or, or_false, false_or, if_true, if_false, ↓reduceIte, eq_self, up_at, up_a, up_k, cp_c, cp_b, Nat.zero_add, Nat.add_zero, Nat.sub_zero, Nat.le_refl, Nat.add_sub_cancel, fu_at, fu_ne, iN_nz, n10_f, n01_f, ofN, qq_at_100, k110b, Nat.lt_irrefl, Nat.not_lt_zero, ne_eq, not_false_eq_true, not_true_eq_false, k9, s0, k2, q1, b_98_3, z, b_98_8]
      refine ⟨_, _, ?_, PC_nw h0⟩
      rw [c_183, b_183_0]
      simp (disch := omega) only [rd_I_mk, rd_R_mk, rd_L_mk, rd_D_mk, kd_mk, wr_I_mk, cp_mk, gd_true, bd_ret, bd_thr, vl_none, vl_some, iN_add, iN_mul, iN_sub, iN_lt, iN_eq, iN_n, iN_m1, iN_pred, vp_iN, K0_le, nr_b0, nr_b1, m1_lt, lt_m1, iN_ne_m1, m1_ne_iN, not_lt_z, true_and, and_true, and_self, or_true, true_or, or_false, false_or, if_true, if_false, ↓reduceIte, eq_self, up_at, up_a, up_k, cp_c, cp_b, Nat.zero_add, Nat.add_zero, Nat.sub_zero, Nat.le_refl, Nat.add_sub_cancel, fu_at, fu_ne, iN_nz, n10_f, n01_f, ofN, qq_at_100, k110b, Nat.lt_irrefl, Nat.not_lt_zero, ne_eq, not_false_eq_true, not_true_eq_false, q, b_183_4, k12, e8, k9, q98, b_183_7, nw_mk, oO]
end OU
