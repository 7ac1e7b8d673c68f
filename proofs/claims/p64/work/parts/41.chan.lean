/-! THE CHANCERY: its parts, what it holds -/
def Tq (τ τ' : qq_R) : Prop := tZ τ ≤ tZ τ' ∧ ∀ a, a < tZ τ → tK τ' a = tK τ a ∧ ∀ k, tR τ' a k = tR τ a k
def Tr (p n : Nat) (τ τ' : qq_R) : Prop := ∀ a, p ≤ a → a < p + n → tK τ' a = tK τ a ∧ ∀ k, tR τ' a k = tR τ a k
theorem Tr_K {p n a : Nat} {τ τ' : qq_R} (h : Tr p n τ τ') (h1 : p ≤ a) (h2 : a < p + n) : tK τ' a = tK τ a := (h a h1 h2).1
theorem Tr_R {p n a k : Nat} {τ τ' : qq_R} (h : Tr p n τ τ') (h1 : p ≤ a) (h2 : a < p + n) : tR τ' a k = tR τ a k := (h a h1 h2).2 k
theorem Tr_wd {p n q m : Nat} {τ τ' : qq_R} (h : Tr p n τ τ') (h1 : p ≤ q) (h2 : q + m ≤ p + n) : Tr q m τ τ' := fun a ha hb => h a (by omega) (by omega)
theorem Tq_rf {τ : qq_R} : Tq τ τ := ⟨Nat.le_refl _, fun _ _ => ⟨rfl, fun _ => rfl⟩⟩
theorem Tq_tr {τ τ' τ'' : qq_R} (h : Tq τ τ') (h2 : Tq τ' τ'') : Tq τ τ'' := ⟨Nat.le_trans h.1 h2.1, fun a ha => ⟨((h2.2 a (Nat.lt_of_lt_of_le ha h.1)).1).trans (h.2 a ha).1, fun k => ((h2.2 a (Nat.lt_of_lt_of_le ha h.1)).2 k).trans ((h.2 a ha).2 k)⟩⟩
theorem Tq_Tr {τ τ' : qq_R} {p n : Nat} (h : Tq τ τ') (h1 : p + n ≤ tZ τ) : Tr p n τ τ' := fun a _ hb => h.2 a (by omega)
theorem Tq_Lq {c : Nat} {τ τ' : qq_R} (h : Lq c τ τ') : Tq τ τ' := ⟨by unfold tZ; rw [h.2.1]; exact Nat.le_refl _, fun a _ => ⟨Lq_K h, fun k => Lq_R h⟩⟩
theorem Tq_nw {τ : qq_R} {kd : Nat × Nat} {s : Nat} : Tq τ (nT τ kd s) := ⟨Nat.le_succ _, fun a ha => ⟨nT_Ko (by omega), fun k => nT_Ro (by omega)⟩⟩
section LT
variable {τ τ' : qq_R} {p : Nat}
theorem L_P_T (h : L_P τ p) (hs : Tr p 6 τ τ') : L_P τ' p := by
  obtain ⟨h0, h1, h2, h3, h4, h5, h6, h7, h8, h9, h10, h11⟩ := h
  refine ⟨h0, ?_, ?_, ?_, ?_, ?_, ?_, ?_, ?_, ?_, ?_, ?_⟩ <;> first | (rw [Tr_K hs (by omega) (by omega)]; assumption) | (rw [Tr_R hs (by omega) (by omega)]; assumption)
theorem L_W_T (h : L_W τ p) (hs : Tr p 7 τ τ') : L_W τ' p := by
  obtain ⟨h0, h1, h2, h3, h4, h5, h6, h7, h8, h9, h10, h11, h12, h13⟩ := h
  refine ⟨h0, ?_, ?_, ?_, ?_, ?_, ?_, ?_, ?_, ?_, ?_, ?_, ?_, ?_⟩ <;> first | (rw [Tr_K hs (by omega) (by omega)]; assumption) | (rw [Tr_R hs (by omega) (by omega)]; assumption)
theorem L_M_T (h : L_M τ p) (hs : Tr p 3 τ τ') : L_M τ' p := by
  obtain ⟨h0, h1, h2, h3, h4, h5⟩ := h
  refine ⟨h0, ?_, ?_, ?_, ?_, ?_⟩ <;> first | (rw [Tr_K hs (by omega) (by omega)]; assumption) | (rw [Tr_R hs (by omega) (by omega)]; assumption)
theorem L_R_T (h : L_R τ p) (hs : Tr p 17 τ τ') : L_R τ' p := by
  obtain ⟨h0, h1, h2, h3, h4, h5, h6, h7⟩ := h
  refine ⟨h0, ?_, ?_, ?_, ?_, L_P_T h5 (Tr_wd hs (by omega) (by omega)), L_W_T h6 (Tr_wd hs (by omega) (by omega)), L_M_T h7 (Tr_wd hs (by omega) (by omega))⟩ <;> first | (rw [Tr_K hs (by omega) (by omega)]; assumption) | (rw [Tr_R hs (by omega) (by omega)]; assumption)
theorem L_H_T (h : L_H τ p) (hs : Tr p 138 τ τ') : L_H τ' p := by
  obtain ⟨h0, h1, h2, h3, h4, h5⟩ := h
  refine ⟨h0, ?_, ?_, ?_, fun i hi => by rw [Tr_R hs (by omega) (by omega)]; exact h4 i hi, fun i hi => L_R_T (h5 i hi) (Tr_wd hs (by omega) (by omega))⟩ <;> first | (rw [Tr_K hs (by omega) (by omega)]; assumption) | (rw [Tr_R hs (by omega) (by omega)]; assumption)
theorem L_L_T (h : L_L τ p) (hs : Tr p 3 τ τ') : L_L τ' p := by
  obtain ⟨h0, h1, h2, h3, h4, h5⟩ := h
  refine ⟨h0, ?_, ?_, ?_, ?_, ?_⟩ <;> first | (rw [Tr_K hs (by omega) (by omega)]; assumption) | (rw [Tr_R hs (by omega) (by omega)]; assumption)
theorem L_D_T (h : L_D τ p) (hs : Tr p 3 τ τ') : L_D τ' p := by
  obtain ⟨h0, h1, h2, h3, h4, h5⟩ := h
  refine ⟨h0, ?_, ?_, ?_, ?_, ?_⟩ <;> first | (rw [Tr_K hs (by omega) (by omega)]; assumption) | (rw [Tr_R hs (by omega) (by omega)]; assumption)
theorem L_T_T (h : L_T τ p) (hs : Tr p 24 τ τ') : L_T τ' p := by
  obtain ⟨h0, h1, h2, h3, h4, h5, h6, h7⟩ := h
  refine ⟨h0, ?_, ?_, ?_, ?_, fun w hw => by rw [Tr_R hs (by omega) (by omega)]; exact h5 w hw, fun w hw => by rw [Tr_K hs (by omega) (by omega)]; exact h6 w hw, ?_⟩ <;> first | (rw [Tr_K hs (by omega) (by omega)]; assumption) | (rw [Tr_R hs (by omega) (by omega)]; assumption)
/-- the script at p but its builder -/
def L_S (τ : qq_R) (p : Nat) : Prop := 70 ≤ p ∧ tK τ p = (9, 0) ∧ tR τ p 0 = p + 1 ∧ tR τ p 1 = p + 3 ∧ tR τ p 2 = p + 4 ∧ tK τ (p + 3) = (112, 11) ∧ tK τ (p + 4) = (110, 11) ∧ (∀ i, i < 11 → tR τ (p + 4) i = p + 5 + i) ∧ (∀ i, i < 11 → tK τ (p + 5 + i) = (100, 4))
theorem L_S_T (h : L_S τ p) (hs : Tr p 1 τ τ') (hs1 : tK τ' (p + 3) = tK τ (p + 3)) (hs2 : Tr (p + 4) 12 τ τ') : L_S τ' p := by
  obtain ⟨h0, h1, h2, h3, h4, h5, h6, h7, h8⟩ := h
  refine ⟨h0, ?_, ?_, ?_, ?_, hs1.trans h5, ?_, fun w hw => by rw [Tr_R hs2 (by omega) (by omega)]; exact h7 w hw, fun w hw => by rw [Tr_K hs2 (by omega) (by omega)]; exact h8 w hw⟩ <;> first | (rw [Tr_K hs (by omega) (by omega)]; assumption) | (rw [Tr_R hs (by omega) (by omega)]; assumption) | (rw [Tr_K hs2 (by omega) (by omega)]; assumption)
def L_C (τ : qq_R) (c : Nat) : Prop := 70 ≤ c ∧ tK τ c = (12, 0) ∧ tR τ c 0 = c + 1 ∧ tR τ c 1 = c + 18 ∧ tR τ c 2 = c + 35 ∧ tR τ c 4 = c + 52 ∧ tR τ c 5 = c + 190 ∧ tR τ c 6 = c + 193 ∧ tR τ c 7 = c + 196 ∧ tR τ c 8 = c + 220 ∧ tR τ c 9 = c + 236 ∧
  L_R τ (c + 1) ∧ L_R τ (c + 18) ∧ L_R τ (c + 35) ∧ L_H τ (c + 52) ∧ L_L τ (c + 190) ∧ L_D τ (c + 193) ∧ L_T τ (c + 196) ∧ L_S τ (c + 220)
theorem L_C_T {c : Nat} (h : L_C τ c) (hs : Tr c 238 τ τ') : L_C τ' c := by
  obtain ⟨h0, h1, h2, h3, h4, h5, h6, h7, h8, h9, h10, g1, g2, g3, g4, g5, g6, g7, g8⟩ := h
  refine ⟨h0, ?_, ?_, ?_, ?_, ?_, ?_, ?_, ?_, ?_, ?_, L_R_T g1 (Tr_wd hs (by omega) (by omega)), L_R_T g2 (Tr_wd hs (by omega) (by omega)), L_R_T g3 (Tr_wd hs (by omega) (by omega)), L_H_T g4 (Tr_wd hs (by omega) (by omega)), L_L_T g5 (Tr_wd hs (by omega) (by omega)), L_D_T g6 (Tr_wd hs (by omega) (by omega)), L_T_T g7 (Tr_wd hs (by omega) (by omega)), L_S_T g8 (Tr_wd hs (by omega) (by omega)) (Tr_K hs (by omega) (by omega)) (Tr_wd hs (by omega) (by omega))⟩ <;> first | (rw [Tr_K hs (by omega) (by omega)]; assumption) | (rw [Tr_R hs (by omega) (by omega)]; assumption)
end LT
/-- all that a chancery holds: the realm, those before, the snapshot, the script, the output, the error's place and 1, the failed command and 1, its kind -/
abbrev sC : Type := sS × List sS × Option sS × List Nat × List Nat × Nat × Nat × Nat
def g_S (C : sC) : sS := C.1
def g_H (C : sC) : List sS := C.2.1
def g_Z (C : sC) : Option sS := C.2.2.1
def g_T (C : sC) : List Nat := C.2.2.2.1
def g_O (C : sC) : List Nat := C.2.2.2.2.1
def g_E (C : sC) : Nat := C.2.2.2.2.2.1
def g_F (C : sC) : Nat := C.2.2.2.2.2.2.1
def g_G (C : sC) : Nat := C.2.2.2.2.2.2.2
/-- what must be of the rest -/
def R_X (I : qq_I) (τ : qq_R) (c Z B : Nat) (C : sC) : Prop := c + 238 ≤ Z ∧ I c 3 = b01 (g_Z C).isSome ∧ (∀ T, g_Z C = some T → R_R I (c + 35) T ∧ wS B T) ∧ I c 10 = caC (g_E C) ∧ I c 11 = caC (g_F C) ∧ I c 12 = iN (g_G C) ∧ (g_G C = 45 ↔ g_F C = 0) ∧ g_G C < 128 ∧ g_E C ≤ 1000 ∧ g_F C ≤ 1000 ∧
  R_B I τ (c + 221) Z (g_T C) ∧ (g_T C).length ≤ 60 ∧ (∀ x ∈ g_T C, 32 ≤ x ∧ x ≤ 126) ∧ R_B I τ (c + 236) Z (g_O C) ∧ (g_O C).length ≤ 60 ∧ (∀ x ∈ g_O C, x < 128) ∧ tR τ (c + 221) 0 ≠ tR τ (c + 236) 0
def R_C (I : qq_I) (τ : qq_R) (c Z B : Nat) (C : sC) : Prop := L_C τ c ∧ R_R I (c + 1) (g_S C) ∧ wS B (g_S C) ∧ R_H I (c + 52) (g_H C) ∧ (∀ T ∈ g_H C, wS B T) ∧ R_X I τ c Z B C
theorem R_B_same {I I' : qq_I} {τ τ' : qq_R} {s Z : Nat} {l : List Nat} (h : R_B I τ s Z l) (hT : Tq τ τ') (hI : ∀ a, (a = s ∨ a = s + 1 ∨ Z ≤ a) → a < tZ τ → I' a = I a) : R_B I' τ' s Z l := by
  obtain ⟨s70, sZ, hZ, h1, h2, h3, v, n, h4, h5, h6, h7, h8, h9, hv, hi, hl⟩ := h
  have e1 := hI s (Or.inl rfl) (by omega)
  have e2 := hI v (by omega) hv
  refine ⟨s70, sZ, Nat.le_trans hZ hT.1, ((hT.2 s (by omega)).1).trans h1, by rw [e1]; exact h2, by rw [e1]; exact h3, v, n, ((hT.2 s (by omega)).2 0).trans h4, ((hT.2 v hv).1).trans h5, h6, h7, h8, h9, Nat.lt_of_lt_of_le hv hT.1, fun i hi2 => by rw [e2]; exact hi i hi2, fun i hi2 => by rw [e2]; exact hl i hi2⟩
theorem R_B_Z {I : qq_I} {τ : qq_R} {s Z : Nat} {l : List Nat} (h : R_B I τ s Z l) : Z ≤ tZ τ := h.2.2.1
/-- the chancery behind a change of its realm, its history, of what it reckons in -/
theorem R_C_gen {I I' : qq_I} {τ τ' : qq_R} {c Z B B' : Nat} {C : sC} {S' : sS} {H' : List sS} (h : R_C I τ c Z B C) (hB : B ≤ B') (hB2 : B' ≤ 900000) (hT : Tq τ τ')
    (hI : ∀ a, a < tZ τ → (a < c + 1 ∨ (c + 35 ≤ a ∧ a < c + 52) ∨ c + 220 ≤ a) → I' a = I a) (hS : R_R I' (c + 1) S') (hw : wS B' S') (hH : R_H I' (c + 52) H') (hHw : ∀ T ∈ H', wS B' T) : R_C I' τ' c Z B' (S', H', C.2.2) := by
  obtain ⟨g1, g2, g3, g4, g5, x1, x2, x3, x4, x5, x6, x7, x8, x9, x10, x11, x12, x13, x14, x15, x16, x17⟩ := h
  have hZ := R_B_Z x11
  have ec : I' c = I c := hI c (by omega) (by omega)
  refine ⟨L_C_T g1 (Tq_Tr hT (by omega)), hS, hw, hH, hHw, x1, by rw [ec]; exact x2, fun T hT2 => ⟨R_R_same (x3 T hT2).1 (fun a _ _ => hI a (by omega) (by omega)), wS_up (x3 T hT2).2 hB hB2⟩, by rw [ec]; exact x4, by rw [ec]; exact x5, by rw [ec]; exact x6, x7, x8, x9, x10, R_B_same x11 hT (fun a ha hb => hI a hb (by omega)), x12, x13, R_B_same x14 hT (fun a ha hb => hI a hb (by omega)), x15, x16, ?_⟩
  rw [(hT.2 _ (by omega)).2 0, (hT.2 _ (by omega)).2 0]; exact x17
/-- nothing but what it reckons in has changed -/
theorem R_C_fr {I I' : qq_I} {τ τ' : qq_R} {c Z B : Nat} {C : sC} (h : R_C I τ c Z B C) (hT : Tq τ τ') (hI : ∀ a, a < tZ τ → (a < c + 18 ∨ (c + 35 ≤ a ∧ a < c + 190) ∨ c + 220 ≤ a) → I' a = I a) : R_C I' τ' c Z B C := by
  have h0 := h
  obtain ⟨g1, g2, g3, g4, g5, gx⟩ := h
  have hZ := R_B_Z gx.2.2.2.2.2.2.2.2.2.2.1
  have hc := gx.1
  exact R_C_gen h0 (Nat.le_refl _) g3.1 hT (fun a ha hb => hI a ha (by omega)) (R_R_same g2 (fun a _ _ => hI a (by omega) (by omega))) g3 (R_H_same g4 (fun a _ _ => hI a (by omega) (by omega))) g5
theorem R_C_Z {I : qq_I} {τ : qq_R} {c Z B : Nat} {C : sC} (h : R_C I τ c Z B C) : c + 238 ≤ Z ∧ Z ≤ tZ τ := ⟨h.2.2.2.2.2.1, R_B_Z h.2.2.2.2.2.2.2.2.2.2.2.2.2.2.2.1⟩
theorem R_C_nw {I : qq_I} {τ : qq_R} {c Z B : Nat} {C : sC} {kd : Nat × Nat} {s : Nat} (h : R_C I τ c Z B C) : R_C (nwI τ I) (nT τ kd s) c Z B C := R_C_fr h Tq_nw (fun a ha _ => nI_o (by omega))
/-- behind a call: what the chancery holds, what else is the same, how much is new -/
def PC (I : qq_I) (τ : qq_R) (c Z B : Nat) (I' : qq_I) (τ' : qq_R) (C' : sC) : Prop := R_C I' τ' c Z B C' ∧ Gf (fun a => (c ≤ a ∧ a < c + 238) ∨ Z ≤ a) I τ I' τ' ∧ tZ τ' ≤ tZ τ + 20 ∧ tU τ' ≤ tU τ + 400
theorem PC_rf {I : qq_I} {τ : qq_R} {c Z B : Nat} {C : sC} (h : R_C I τ c Z B C) : PC I τ c Z B I τ C := ⟨h, Gf_rf, by omega, by omega⟩
theorem PC_nw {I : qq_I} {τ : qq_R} {c Z B : Nat} {C : sC} (h : R_C I τ c Z B C) : PC I τ c Z B (nwI τ I) (nT τ (201, 0) 6) C := ⟨R_C_nw h, Gf_nw, by rw [nT_Z]; omega, by rw [nT_U]; omega⟩
/-- the exception for a fault -/
def ecx (g : Nat) : Nat := if g = 105 then 0 else if g = 97 then 1 else if g = 115 then 2 else if g = 101 then 3 else 4
def isF (g : Nat) : Prop := g = 45 ∨ g = 105 ∨ g = 97 ∨ g = 115 ∨ g = 101 ∨ g = 117
theorem c_raise {d : Nat} {I : qq_I} {τ : qq_R} {g : Nat} (hg : isF g) : CC d 191 [.int (iN g)] (I, τ) = if g = 45 then some (.inl none, (I, τ)) else some (.inr (ecx g), (nwI τ I, nT τ (201, 0) 6)) := by
  rw [c_191, b_191_0]
  rcases hg with rfl | rfl | rfl | rfl | rfl | rfl
  · rw [s_191_1_d, b_191_22, if_pos rfl]
    all_goals decide
  · rw [s_191_1_105, b_191_2]; rfl
  · rw [s_191_1_97, b_191_6]; rfl
  · rw [s_191_1_115, b_191_10]; rfl
  · rw [s_191_1_101, b_191_14]; rfl
  · rw [s_191_1_117, b_191_18]; rfl
