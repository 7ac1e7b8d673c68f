/-! PUBLIC CALLS: running the script -/
/-- the commands, one after another: what they leave, or which fails and how -/
def ruS : List (Nat × List Nat) → Nat → sS → Sum sS (Nat × Nat)
  | [], _, S => .inl S
  | (k, a) :: cs, i, S => if fo k S (aN a 0) (aN a 1) (aN a 2) (aN a 3) = 45 then ruS cs (i + 1) (oo k S (aN a 0) (aN a 1) (aN a 2) (aN a 3)) else .inr (i, fo k S (aN a 0) (aN a 1) (aN a 2) (aN a 3))
section RU
variable {d : Nat} {I I' : qq_I} {τ τ' : qq_R} {c Z B : Nat} {C : sC}
/-- the script's commands have changed -/
theorem R_C_Cq (h : R_C I τ c Z B C) (hS : SC I' τ' (c + 220) Z (g_T C)) (hq : Cq (c + 220) τ τ') (hI : ∀ a, (a < c + 220 ∨ c + 236 ≤ a) → I' a = I a) : R_C I' τ' c Z B C := by
  have hz := R_C_Z h
  obtain ⟨g1, g2, g3, g4, g5, x1, x2, x3, x4, x5, x6, x7, x8, x9, x10, x11, x12, x13, x14, x15, x16, x17⟩ := h
  obtain ⟨v1, v2⟩ := R_B_v x14
  have ec := hI c (by omega)
  have hKR : ∀ a, a ≠ c + 223 → tK τ' a = tK τ a ∧ ∀ k, tR τ' a k = tR τ a k := fun a ha => ⟨hq.2.2.1 a, fun k => Cq_R hq (by omega)⟩
  have hO : R_B I' τ' (c + 236) Z (g_O C) := by
    obtain ⟨s70, sZ, hZ, y1, y2, y3, v, n, y4, y5, y6, y7, y8, y9, hv, gi, gl⟩ := x14
    have e1 := hI (c + 236) (by omega)
    have e2 := hI v (by omega)
    exact ⟨s70, sZ, by rw [hq.1]; exact hZ, (hq.2.2.1 _).trans y1, by rw [e1]; exact y2, by rw [e1]; exact y3, v, n, (Cq_R hq (by omega)).trans y4, (hq.2.2.1 _).trans y5, y6, y7, y8, y9, by rw [hq.1]; exact hv, fun i hi => by rw [e2]; exact gi i hi, fun i hi => by rw [e2]; exact gl i hi⟩
  refine ⟨L_C_T2 g1 (fun a h1 h2 => hKR a (by omega)) (hq.2.2.1 _) (fun a h1 h2 => hKR a (by omega)), R_R_same g2 (fun a _ _ => hI a (by omega)), g3, R_H_same g4 (fun a _ _ => hI a (by omega)), g5, x1, by rw [ec]; exact x2, fun T hT2 => ⟨R_R_same (x3 T hT2).1 (fun a _ _ => hI a (by omega)), (x3 T hT2).2⟩, by rw [ec]; exact x4, by rw [ec]; exact x5, by rw [ec]; exact x6, x7, x8, x9, x10, hS.2.1, x12, x13, hO, x15, x16, ?_⟩
  rw [Cq_R hq (by omega), Cq_R hq (by omega)]; exact x17
theorem R_C_E (h : R_C I τ c Z B C) {E F G : Nat} (hI : ∀ a, a ≠ c → I' a = I a) (h3 : I' c 3 = I c 3) (hE : I' c 10 = caC E) (hF : I' c 11 = caC F) (hG : I' c 12 = iN G) (e1 : G = 45 ↔ F = 0) (e2 : G < 128) (e3 : E ≤ 1000) (e4 : F ≤ 1000) : R_C I' τ c Z B (g_S C, g_H C, g_Z C, g_T C, g_O C, E, F, G) := by
  have hz := R_C_Z h
  obtain ⟨g1, g2, g3, g4, g5, x1, x2, x3, x4, x5, x6, x7, x8, x9, x10, x11, x12, x13, x14, x15, x16, x17⟩ := h
  exact ⟨g1, R_R_same g2 (fun a _ _ => hI a (by omega)), g3, R_H_same g4 (fun a _ _ => hI a (by omega)), g5, x1, h3.trans x2, fun T hT2 => ⟨R_R_same (x3 T hT2).1 (fun a _ _ => hI a (by omega)), (x3 T hT2).2⟩, hE, hF, hG, e1, e2, e3, e4, R_B_same x11 Tq_rf (fun a ha _ => hI a (by omega)), x12, x13, R_B_same x14 Tq_rf (fun a ha _ => hI a (by omega)), x15, x16, x17⟩
/-- the loop over the commands -/
theorem c_runAll (hL : L_C τ c) (hK : KC I τ) (hB : B + 1400 ≤ 900000) {cs : List (Nat × List Nat)} (hcs : CS I τ (c + 220) cs) (h11 : cs.length ≤ 11) (x1 : Int32) :
    ∀ (f : List (Nat × List Nat)) i (S : sS) (J : qq_I) (u3 u4 u5 : Option Value), i ≤ cs.length → cs.drop i = f → R_R J (c + 18) S → wS (B + 60 * i) S → (∀ a, (a < c + 18 ∨ c + 35 ≤ a) → (a < c + 198 ∨ c + 219 ≤ a) → J a = I a) →
      ∃ J', (∀ a, (a < c + 18 ∨ c + 35 ≤ a) → (a < c + 198 ∨ c + 219 ≤ a) → J' a = I a) ∧
        ((∃ S' v3 v4 v5, ruS f i S = .inl S' ∧ RR (d + 39 + 1) 184 25 [some (.ref c), some (.int x1), some (.int (iN i)), u3, u4, u5] [] (J, τ) = RR (d + 39 + 1) 184 25 [some (.ref c), some (.int x1), some (.int (iN cs.length)), v3, v4, v5] [] (J', τ) ∧ R_R J' (c + 18) S' ∧ wS (B + 660) S') ∨
         (∃ j g, ruS f i S = .inr (j, g) ∧ RR (d + 39 + 1) 184 25 [some (.ref c), some (.int x1), some (.int (iN i)), u3, u4, u5] [] (J, τ) = some (.inr 2, (nwI τ (up_2 (up_2 J' c 11 (iN j)) c 12 (iN g)), nT τ (201, 0) 6)) ∧ isF g ∧ g ≠ 45 ∧ j < 11)) := by
  have c70 := hL.1
  have k12 := hL.2.1
  have e8 := hL.2.2.2.2.2.2.2.2.2.1
  have lS := hL.2.2.2.2.2.2.2.2.2.2.2.2.2.2.2.2.2.2
  obtain ⟨-, k9, -, s1, s2, s3, s4, s5, s6⟩ := lS
  intro f
  induction f with
  | nil =>
    intro i S J u3 u4 u5 hi hd hR hw hI
    have hi2 : cs.length ≤ i := List.drop_eq_nil_iff.mp hd
    have hi3 : i = cs.length := by omega
    refine ⟨J, hI, Or.inl ⟨S, u3, u4, u5, rfl, by rw [hi3], hR, wS_up hw (by omega) (by omega)⟩⟩
  | cons ka f ih =>
    intro i S J u3 u4 u5 hi hd hR hw hI
    have hil : i < cs.length := by
      rcases Nat.lt_or_ge i cs.length with q | q
      · exact q
      · rw [List.drop_eq_nil_of_le q] at hd; exact absurd hd (by simp)
    rw [List.drop_eq_getElem_cons hil] at hd
    obtain ⟨hd1, hd2⟩ := List.cons.inj hd
    obtain ⟨b1, b2, b3⟩ := hcs.2 i hil
    rw [hd1] at b1 b2 b3
    obtain ⟨k, a⟩ := ka
    dsimp only at b1 b2 b3
    have hKJ : KC J τ := KC_same hK (fun a ha => ⟨hI a (by omega) (by omega), rfl, fun _ => rfl⟩)
    have j3 : J (c + 220) 3 = iN cs.length := by rw [hI _ (by omega) (by omega)]; exact hcs.1
    have ja : ∀ n, n < 4 → J (c + 220 + 5 + i) n = aN a n := fun n hn => by rw [hI _ (by omega) (by omega)]; exact b3 n hn
    have ja0 := ja 0 (by omega)
    have ja1 := ja 1 (by omega)
    have ja2 := ja 2 (by omega)
    have ja3 := ja 3 (by omega)
    obtain ⟨K, q1, q2⟩ := c_faultOf (d := d) hL hKJ b2 hR hw (aN a 0) (aN a 1) (aN a 2) (aN a 3)
    have s5' := s5 i (by omega)
    have s6' := s6 i (by omega)
    have hfo : isF (fo k S (aN a 0) (aN a 1) (aN a 2) (aN a 3)) := isF_fo
    have hIK : ∀ a, (a < c + 18 ∨ c + 35 ≤ a) → (a < c + 198 ∨ c + 219 ≤ a) → K a = I a := fun a h1 h2 => by rw [q2 a (by omega)]; exact hI a h1 h2
    have hKK : KC K τ := KC_same hK (fun a ha => ⟨hIK a (by omega) (by omega), rfl, fun _ => rfl⟩)
    have ka0 : K (c + 220 + 5 + i) 0 = aN a 0 := by rw [hIK _ (by omega) (by omega)]; exact b3 0 (by omega)
    have ka1 : K (c + 220 + 5 + i) 1 = aN a 1 := by rw [hIK _ (by omega) (by omega)]; exact b3 1 (by omega)
    have ka2 : K (c + 220 + 5 + i) 2 = aN a 2 := by rw [hIK _ (by omega) (by omega)]; exact b3 2 (by omega)
    have ka3 : K (c + 220 + 5 + i) 3 = aN a 3 := by rw [hIK _ (by omega) (by omega)]; exact b3 3 (by omega)
    have st1 : RR (d + 39 + 1) 184 25 [some (.ref c), some (.int x1), some (.int (iN i)), u3, u4, u5] [] (J, τ) = RR (d + 39 + 1) 184 57 [some (.ref c), some (.int x1), some (.int (iN i)), some (.ref (57 + k)), some (.ref (c + 220 + 5 + i)), u5] [.int (iN (fo k S (aN a 0) (aN a 1) (aN a 2) (aN a 3)))] (K, τ) := by
      rw [b_184_25]
      simp (disch := omega) only [rd_I_mk, rd_R_mk, rd_L_mk, rd_D_mk, kd_mk, wr_I_mk, cp_mk, gd_true, bd_ret, bd_thr, vl_none, vl_some, iN_add, iN_mul, iN_sub, iN_lt, iN_eq, iN_n, iN_m1, iN_pred, vp_iN, K0_le, nr_b0, nr_b1, m1_lt, lt_m1, iN_ne_m1, m1_ne_iN, not_lt_z, true_and, and_true, and_self, or_true, true_or, or_false, false_or, if_true, if_false, ↓reduceIte, eq_self, up_at, up_a, up_k, cp_c, cp_b, Nat.zero_add, Nat.add_zero, Nat.sub_zero, Nat.le_refl, Nat.add_sub_cancel, fu_at, fu_ne, iN_nz, n10_f, n01_f, ofN, qq_at_100, k110b, Nat.lt_irrefl, Nat.not_lt_zero, ne_eq, not_false_eq_true, not_true_eq_false, k12, e8, k9, j3, hil, s1, s3, k112, s2, s4, k9_4, s5', s6', b1, ja0, ja1, ja2, ja3, q1]
    rw [ruS, st1]
    by_cases hf : fo k S (aN a 0) (aN a 1) (aN a 2) (aN a 3) = 45
    · rw [if_pos hf]
      obtain ⟨L, t1, t2, t3, t4⟩ := c_carryOut (d := d) hL hKK b2 (R_R_same hR (fun a _ _ => q2 a (by omega))) hw (by omega) hf
      obtain ⟨J', v1, v2⟩ := ih (i + 1) (oo k S (aN a 0) (aN a 1) (aN a 2) (aN a 3)) L (some (.ref (57 + k))) (some (.ref (c + 220 + 5 + i))) (some (.int (iN 45))) hil hd2 t2 (by rw [Nat.mul_succ]; exact t3) (fun b h1 h2 => by rw [t4 b h1 (by omega)]; exact hIK b h1 h2)
      have st2 : RR (d + 39 + 1) 184 57 [some (.ref c), some (.int x1), some (.int (iN i)), some (.ref (57 + k)), some (.ref (c + 220 + 5 + i)), u5] [.int (iN (fo k S (aN a 0) (aN a 1) (aN a 2) (aN a 3)))] (K, τ) = RR (d + 39 + 1) 184 25 [some (.ref c), some (.int x1), some (.int (iN (i + 1))), some (.ref (57 + k)), some (.ref (c + 220 + 5 + i)), some (.int (iN 45))] [] (L, τ) := by
        rw [hf, b_184_57]
        simp (disch := omega) only [rd_I_mk, rd_R_mk, rd_L_mk, rd_D_mk, kd_mk, wr_I_mk, cp_mk, gd_true, bd_ret, bd_thr, vl_none, vl_some, iN_add, iN_mul, iN_sub, iN_lt, iN_eq, iN_n, iN_m1, iN_pred, vp_iN, K0_le, nr_b0, nr_b1, m1_lt, lt_m1, iN_ne_m1, m1_ne_iN, not_lt_z, true_and, and_true, and_self, or_true, true_or, or_false, false_or, if_true, if_false, ↓reduceIte, eq_self, up_at, up_a, up_k, cp_c, cp_b, Nat.zero_add, Nat.add_zero, Nat.sub_zero, Nat.le_refl, Nat.add_sub_cancel, fu_at, fu_ne, iN_nz, n10_f, n01_f, ofN, qq_at_100, k110b, Nat.lt_irrefl, Nat.not_lt_zero, ne_eq, not_false_eq_true, not_true_eq_false, k12, s6', ka0, ka1, ka2, ka3, t1, b_184_86]
      rw [st2]
      exact ⟨J', v1, v2⟩
    · rw [if_neg hf]
      have hn := nk_ch (n := fo k S (aN a 0) (aN a 1) (aN a 2) (aN a 3)) (by rcases hfo with h | h | h | h | h | h <;> omega)
      have hf2 : fo k S (aN a 0) (aN a 1) (aN a 2) (aN a 3) < 1000 := by rcases hfo with h | h | h | h | h | h <;> omega
      refine ⟨K, hIK, Or.inr ⟨i, _, rfl, ?_, hfo, hf, by omega⟩⟩
      rw [b_184_57]
      simp (disch := omega) only [rd_I_mk, rd_R_mk, rd_L_mk, rd_D_mk, kd_mk, wr_I_mk, cp_mk, gd_true, bd_ret, bd_thr, vl_none, vl_some, iN_add, iN_mul, iN_sub, iN_lt, iN_eq, iN_n, iN_m1, iN_pred, vp_iN, K0_le, nr_b0, nr_b1, m1_lt, lt_m1, iN_ne_m1, m1_ne_iN, not_lt_z, true_and, and_true, and_self, or_true, true_or, or_false, false_or, if_true, if_false, ↓reduceIte, eq_self, up_at, up_a, up_k, cp_c, cp_b, Nat.zero_add, Nat.add_zero, Nat.sub_zero, Nat.le_refl, Nat.add_sub_cancel, fu_at, fu_ne, iN_nz, n10_f, n01_f, ofN, qq_at_100, k110b, Nat.lt_irrefl, Nat.not_lt_zero, ne_eq, not_false_eq_true, not_true_eq_false, hf, k12, b_184_64, hn, b_184_67, nw_mk]
def q_run (C : sC) : qR := if (rdS (g_T C) 11 0 []).1 = true then (match ruS (rdS (g_T C) 11 0 []).2.2 0 (g_S C) with
  | .inl _ => .inl (iN (rdS (g_T C) 11 0 []).2.2.length)
  | .inr _ => .inr 2) else .inr 1
def t_run (C : sC) : sC := if (rdS (g_T C) 11 0 []).1 = true then (match ruS (rdS (g_T C) 11 0 []).2.2 0 (g_S C) with
  | .inl S' => (S', hiA (g_H C) (g_S C), g_Z C, [], g_O C, g_E C, g_F C, g_G C)
  | .inr (j, g) => (g_S C, g_H C, g_Z C, [], g_O C, g_E C, j + 1, g)) else (g_S C, g_H C, g_Z C, [], g_O C, (rdS (g_T C) 11 0 []).2.1 + 1, g_F C, g_G C)
theorem p_runScript (h : R_C I τ c Z B C) (hK : KC I τ) (hB : B + 1400 ≤ 900000) : ∃ I' τ', CC (d + 40) 184 [.ref c] (I, τ) = some (oO (q_run C), (I', τ')) ∧ PC I τ c Z (B + 660) I' τ' (t_run C) := by
  have hz := R_C_Z h
  have hgx := h.2.2.2.2.2
  have lS := h.1.2.2.2.2.2.2.2.2.2.2.2.2.2.2.2.2.2.2
  have c70 := h.1.1
  have k12 := h.1.2.1
  have e8 := h.1.2.2.2.2.2.2.2.2.2.1
  have hSC : SC I τ (c + 220) Z (g_T C) := ⟨lS, hgx.2.2.2.2.2.2.2.2.2.2.1, hgx.2.2.2.2.2.2.2.2.2.2.2.1, hgx.2.2.2.2.2.2.2.2.2.2.2.2.1, by omega⟩
  obtain ⟨I1, τ1, s1, s2, s3, s4, s5, s6, s7, s8⟩ := c_read (d := d + 29) hSC hK
  have hC1 : R_C I1 τ1 c Z B C := R_C_Cq h s2 s4 (fun a ha => s8 a (by omega))
  have hP1 : PC I τ c Z B I1 τ1 C := ⟨hC1, ⟨by rw [s4.1]; exact Nat.le_refl _, fun a ha => ⟨s4.2.2.1 a, fun hn => by
    have := hc_out hn
    exact ⟨s8 a (by omega), s4.2.2.2.2.2 a (by omega), by rw [s4.2.2.2.1], by rw [s4.2.2.2.2.1]⟩⟩⟩, by rw [s4.1]; omega, by rw [s4.2.1]; omega⟩
  have hx11 := hC1.2.2.2.2.2.2.2.2.2.2.2.2.2.2.2.1
  have hx12 := hC1.2.2.2.2.2.2.2.2.2.2.2.2.2.2.2.2.1
  obtain ⟨I2, τ2, r1, r2⟩ := c_setLength (d := d + 34) hx11 (by omega)
  have hP2 := PC_tape hC1 (by omega) r2 (Nat.zero_le _) (fun x hx => absurd hx List.not_mem_nil)
  have hC2 := hP2.1
  obtain ⟨v1, v2⟩ := R_B_v hx11
  have hz1 := R_C_Z hC1
  have hG2 := r2.2.1
  have hA : ∀ a, a < c + 238 → a ≠ c + 221 → a ≠ c + 222 → ¬ (a = c + 221 ∨ a = tR τ1 (c + 221) 0) := fun a h1 h2 h3 => by omega
  have hI2 : ∀ a, a < c + 238 → a ≠ c + 221 → a ≠ c + 222 → I2 a = I1 a := fun a h1 h2 h3 => Gf_II hG2 (by omega) (hA a h1 h2 h3)
  have hR2 : ∀ a k, a < c + 238 → a ≠ c + 221 → a ≠ c + 222 → tR τ2 a k = tR τ1 a k := fun a k h1 h2 h3 => Gf_R hG2 (by omega) (hA a h1 h2 h3)
  have hK2 : KC I2 τ2 := KC_gf s3 hG2 (by omega) (fun a ha => hA a (by omega) (by omega) (by omega))
  have hGG : Gf (fun a => (c ≤ a ∧ a < c + 238) ∨ Z ≤ a) I τ I2 τ2 := Gf_tr hP1.2.1 hP2.2.1 (fun _ _ z => z) (fun _ _ z => z)
  have hz2 : tZ τ2 ≤ tZ τ + 1 := by have := r2.2.2.1; have := s4.1; omega
  have hu2 : tU τ2 ≤ tU τ + 122 := by have := r2.2.2.2.1; have := s4.2.1; omega
  have k9 := lS.2.1
  have k9' := hC1.1.2.2.2.2.2.2.2.2.2.2.2.2.2.2.2.2.2.2.2.1
  have k12' := hC1.1.2.1
  have e8' := hC1.1.2.2.2.2.2.2.2.2.2.1
  have k2' : tK τ1 (c + 221) = (2, 0) := hx11.2.2.2.1
  have k12'' := hC2.1.2.1
  have e0'' := hC2.1.2.2.1
  have e1'' := hC2.1.2.2.2.1
  have e4'' := hC2.1.2.2.2.2.2.1
  have e8'' := hC2.1.2.2.2.2.2.2.2.2.2.1
  have k9'' := hC2.1.2.2.2.2.2.2.2.2.2.2.2.2.2.2.2.2.2.2.2.1
  have p5 : I2 (c + 220) 5 = iN (rdS (g_T C) 11 0 []).2.1 := by rw [hI2 _ (by omega) (by omega) (by omega)]; exact s5
  have s0' : tR τ1 (c + 220) 0 = c + 221 := hC1.1.2.2.2.2.2.2.2.2.2.2.2.2.2.2.2.2.2.2.2.2.1
  have r3 : CC (d + 39) 100 [.ref (c + 220)] (I1, τ1) = some (.inl none, (I2, τ2)) := by
    rw [c_100, b_100_0]
    simp (disch := omega) only [rd_I_mk, rd_R_mk, rd_L_mk, rd_D_mk, kd_mk, wr_I_mk, cp_mk, gd_true, bd_ret, bd_thr, vl_none, vl_some, iN_add, iN_mul, iN_sub, iN_lt, iN_eq, iN_n, iN_m1, iN_pred, vp_iN, K0_le, nr_b0, nr_b1, m1_lt, lt_m1, iN_ne_m1, m1_ne_iN, not_lt_z, true_and, and_true, and_self, or_true, true_or, or_false, false_or, if_true, if_false, ↓reduceIte, eq_self, up_at, up_a, up_k, cp_c, cp_b, Nat.zero_add, Nat.add_zero, Nat.sub_zero, Nat.le_refl, Nat.add_sub_cancel, fu_at, fu_ne, iN_nz, n10_f, n01_f, ofN, qq_at_100, k110b, Nat.lt_irrefl, Nat.not_lt_zero, ne_eq, not_false_eq_true, not_true_eq_false, k9', s0', k2', r1, b_100_4]
  have start : ∀ out, RR (d + 39 + 1) 184 7 [some (.ref c), some (.int (b01 (rdS (g_T C) 11 0 []).1)), none, none, none, none] [] (I2, τ2) = out → CC (d + 40) 184 [.ref c] (I, τ) = out := fun out ho => by
    rw [c_184, b_184_0]
    simp (disch := omega) only [rd_I_mk, rd_R_mk, rd_L_mk, rd_D_mk, kd_mk, wr_I_mk, cp_mk, gd_true, bd_ret, bd_thr, vl_none, vl_some, iN_add, iN_mul, iN_sub, iN_lt, iN_eq, iN_n, iN_m1, iN_pred, vp_iN, K0_le, nr_b0, nr_b1, m1_lt, lt_m1, iN_ne_m1, m1_ne_iN, not_lt_z, true_and, and_true, and_self, or_true, true_or, or_false, false_or, if_true, if_false, ↓reduceIte, eq_self, up_at, up_a, up_k, cp_c, cp_b, Nat.zero_add, Nat.add_zero, Nat.sub_zero, Nat.le_refl, Nat.add_sub_cancel, fu_at, fu_ne, iN_nz, n10_f, n01_f, ofN, qq_at_100, k110b, Nat.lt_irrefl, Nat.not_lt_zero, ne_eq, not_false_eq_true, not_true_eq_false, k12, e8, k9, s1, b_184_3, k12', e8', k9', r3]
    exact ho
  unfold q_run t_run
  cases hok : (rdS (g_T C) 11 0 []).1 with
  | false =>
    rw [hok, b01_f] at start
    rw [if_neg (show ¬ (false = true) by decide), if_neg (show ¬ (false = true) by decide)]
    have x2 := hC2.2.2.2.2.2
    have hE : R_C (up_2 I2 c 10 (iN (rdS (g_T C) 11 0 []).2.1)) τ2 c Z B (g_S C, g_H C, g_Z C, [], g_O C, (rdS (g_T C) 11 0 []).2.1 + 1, g_F C, g_G C) :=
      R_C_E hC2 (fun a ha => up_c ha) (up_k (by omega)) (by rw [up_at, caC_s]) (by rw [up_k (by omega)]; exact x2.2.2.2.2.1) (by rw [up_k (by omega)]; exact x2.2.2.2.2.2.1) x2.2.2.2.2.2.2.1 x2.2.2.2.2.2.2.2.1 (by omega) x2.2.2.2.2.2.2.2.2.2.1
    refine ⟨nwI τ2 (up_2 I2 c 10 (iN (rdS (g_T C) 11 0 []).2.1)), nT τ2 (201, 0) 6, start _ ?_, R_C_nw (R_C_up hE (Nat.le_add_right _ _) (by omega)), Gf_tr (Gf_tr hGG (Gf_up (A := fun a => (c ≤ a ∧ a < c + 238) ∨ Z ≤ a) (a := c) (Or.inl ⟨Nat.le_refl _, by omega⟩)) (fun _ _ z => z) (fun _ _ z => z)) (Gf_nw (A := fun a => (c ≤ a ∧ a < c + 238) ∨ Z ≤ a)) (fun _ _ z => z) (fun _ _ z => z), by rw [nT_Z]; omega, by rw [nT_U]; omega⟩
    rw [b_184_7]
    simp (disch := omega) only [rd_I_mk, rd_R_mk, rd_L_mk, rd_D_mk, kd_mk, wr_I_mk, cp_mk, gd_true, bd_ret, bd_thr, vl_none, vl_some, iN_add, iN_mul, iN_sub, iN_lt, iN_eq, iN_n, iN_m1, iN_pred, vp_iN, K0_le, nr_b0, nr_b1, m1_lt, lt_m1, iN_ne_m1, m1_ne_iN, not_lt_z, true_and, and_true, and_self, or_true, true_or, or_false, false_or, if_true, if_false, ↓reduceIte, eq_self, up_at, up_a, up_k, cp_c, cp_b, Nat.zero_add, Nat.add_zero, Nat.sub_zero, Nat.le_refl, Nat.add_sub_cancel, fu_at, fu_ne, iN_nz, n10_f, n01_f, ofN, qq_at_100, k110b, Nat.lt_irrefl, Nat.not_lt_zero, ne_eq, not_false_eq_true, not_true_eq_false, k12'', e8'', k9'', p5, b_184_14, nw_mk, oO]
  | true =>
    rw [hok, b01_t] at start
    rw [if_pos rfl, if_pos rfl]
    obtain ⟨hcs1, h11⟩ := s7 hok
    have hcs : CS I2 τ2 (c + 220) (rdS (g_T C) 11 0 []).2.2 := by
      refine ⟨by rw [hI2 _ (by omega) (by omega) (by omega)]; exact hcs1.1, fun j hj => ?_⟩
      obtain ⟨y1, y2, y3⟩ := hcs1.2 j hj
      exact ⟨(hR2 _ _ (by omega) (by omega) (by omega)).trans y1, y2, fun i hi => by rw [hI2 _ (by omega) (by omega) (by omega)]; exact y3 i hi⟩
    obtain ⟨g1, g2, g3, g4, g5, gx⟩ := hC2
    have hl := g1.2.2.2.2.2.2.2.2.2.2.2.1
    have hl1 := g1.2.2.2.2.2.2.2.2.2.2.2.2.1
    have hh := g1.2.2.2.2.2.2.2.2.2.2.2.2.2.2.1
    have k8 := hl.2.1
    have k81 := hl1.2.1
    have k4 := hh.2.1
    obtain ⟨J0, u1, u2, u3⟩ := c_copyRealm (d := d + 38) (τ := τ2) hl1 hl g2 g3 (Or.inr (by omega))
    obtain ⟨J', w1, w2⟩ := c_runAll (d := d) g1 hK2 hB hcs h11 (iN 1) (rdS (g_T C) 11 0 []).2.2 0 (g_S C) J0 none none none (Nat.zero_le _) (by rw [List.drop_zero]) u2 g3 (fun a h1 _ => u3 a h1)
    have start2 : ∀ out, RR (d + 39 + 1) 184 25 [some (.ref c), some (.int (iN 1)), some (.int (iN 0)), none, none, none] [] (J0, τ2) = out → CC (d + 40) 184 [.ref c] (I, τ) = out := fun out ho => start _ (by
      rw [b_184_7]
      simp (disch := omega) only [rd_I_mk, rd_R_mk, rd_L_mk, rd_D_mk, kd_mk, wr_I_mk, cp_mk, gd_true, bd_ret, bd_thr, vl_none, vl_some, iN_add, iN_mul, iN_sub, iN_lt, iN_eq, iN_n, iN_m1, iN_pred, vp_iN, K0_le, nr_b0, nr_b1, m1_lt, lt_m1, iN_ne_m1, m1_ne_iN, not_lt_z, true_and, and_true, and_self, or_true, true_or, or_false, false_or, if_true, if_false, ↓reduceIte, eq_self, up_at, up_a, up_k, cp_c, cp_b, Nat.zero_add, Nat.add_zero, Nat.sub_zero, Nat.le_refl, Nat.add_sub_cancel, fu_at, fu_ne, iN_nz, n10_f, n01_f, ofN, qq_at_100, k110b, Nat.lt_irrefl, Nat.not_lt_zero, ne_eq, not_false_eq_true, not_true_eq_false, k12'', e0'', e1'', k81, u1, b_184_23]
      exact ho)
    rcases w2 with ⟨S', v3, v4, v5, z1, z2, z3, z4⟩ | ⟨j, g, z1, z2, z3, z4, z5⟩
    · rw [z1]
      have hSw : wS B (g_S C) := g3
      obtain ⟨K, a1, a2, a3⟩ := c_remember (d := d + 37) (I := J') (τ := τ2) hh hl (Or.inl (by omega)) (R_H_same g4 (fun a _ _ => w1 a (by omega) (by omega))) (R_R_same g2 (fun a _ _ => w1 a (by omega) (by omega))) hSw
      have hzS : R_R K (c + 18) S' := R_R_same z3 (fun a _ _ => a3 a (by omega))
      obtain ⟨L, b1, b2, b3⟩ := c_copyRealm (d := d + 38) (τ := τ2) hl hl1 hzS z4 (Or.inl (by omega))
      have hfr : ∀ a, (a < c + 1 ∨ (c + 35 ≤ a ∧ a < c + 52) ∨ c + 219 ≤ a) → L a = I2 a := fun a ha => by rw [b3 a (by omega), a3 a (by omega), w1 a (by omega) (by omega)]
      have j3 : J' (c + 220) 3 = iN (rdS (g_T C) 11 0 []).2.2.length := by rw [w1 _ (by omega) (by omega)]; exact hcs.1
      have l3 : L (c + 220) 3 = iN (rdS (g_T C) 11 0 []).2.2.length := by rw [hfr _ (by omega)]; exact hcs.1
      refine ⟨L, τ2, start2 _ ?_, R_C_gen (C := cT C []) ⟨g1, g2, g3, g4, g5, gx⟩ (Nat.le_add_right _ 660) (by omega) Tq_rf (fun a _ ha => hfr a (by omega)) b2 z4 (R_H_same a2 (fun a _ _ => b3 a (by omega))) (fun T hT => ?_), Gf_tr hGG (Gf_I (A := fun a => (c ≤ a ∧ a < c + 238) ∨ Z ≤ a) (fun a ha => by
        have := hc_out ha
        exact hfr a (by omega))) (fun _ _ z => z) (fun _ _ z => z), by omega, by omega⟩
      · rw [z2, b_184_25]
        simp (disch := omega) only [rd_I_mk, rd_R_mk, rd_L_mk, rd_D_mk, kd_mk, wr_I_mk, cp_mk, gd_true, bd_ret, bd_thr, vl_none, vl_some, iN_add, iN_mul, iN_sub, iN_lt, iN_eq, iN_n, iN_m1, iN_pred, vp_iN, K0_le, nr_b0, nr_b1, m1_lt, lt_m1, iN_ne_m1, m1_ne_iN, not_lt_z, true_and, and_true, and_self, or_true, true_or, or_false, false_or, if_true, if_false, ↓reduceIte, eq_self, up_at, up_a, up_k, cp_c, cp_b, Nat.zero_add, Nat.add_zero, Nat.sub_zero, Nat.le_refl, Nat.add_sub_cancel, fu_at, fu_ne, iN_nz, n10_f, n01_f, ofN, qq_at_100, k110b, Nat.lt_irrefl, Nat.not_lt_zero, ne_eq, not_false_eq_true, not_true_eq_false, k12'', e8'', k9'', j3, e4'', e0'', k4, a1, b_184_93, e1'', k8, b1, b_184_98, l3, oO]
      · rcases hiA_mem hT with y | y
        · exact wS_up (g5 T y) (by omega) (by omega)
        · rw [y]; exact wS_up g3 (by omega) (by omega)
    · rw [z1]
      have hJC : R_C J' τ2 c Z B (cT C []) := R_C_fr ⟨g1, g2, g3, g4, g5, gx⟩ Tq_rf (fun a _ ha => w1 a (by omega) (by omega))
      have x2 := hJC.2.2.2.2.2
      have hE : R_C (up_2 (up_2 J' c 11 (iN j)) c 12 (iN g)) τ2 c Z B (g_S C, g_H C, g_Z C, [], g_O C, g_E C, j + 1, g) :=
        R_C_E hJC (fun a ha => by rw [up_c ha, up_c ha]) (by rw [up_k (by omega), up_k (by omega)]) (by rw [up_k (by omega), up_k (by omega)]; exact x2.2.2.2.1) (by rw [up_k (by omega), up_at, caC_s]) up_at ⟨fun y => absurd y z4, fun y => by omega⟩ (by rcases z3 with y | y | y | y | y | y <;> omega) x2.2.2.2.2.2.2.2.2.1 (by omega)
      refine ⟨_, _, start2 _ z2, R_C_nw (R_C_up hE (Nat.le_add_right _ _) (by omega)), Gf_tr (Gf_tr hGG (Gf_I (A := fun a => (c ≤ a ∧ a < c + 238) ∨ Z ≤ a) (fun a ha => by
        have := hc_out ha
        rw [up_c (by omega), up_c (by omega)]
        exact w1 a (by omega) (by omega))) (fun _ _ z => z) (fun _ _ z => z)) (Gf_nw (A := fun a => (c ≤ a ∧ a < c + 238) ∨ Z ≤ a)) (fun _ _ z => z) (fun _ _ z => z), by rw [nT_Z]; omega, by rw [nT_U]; omega⟩
end RU
