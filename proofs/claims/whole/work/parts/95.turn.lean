/-! THE LAW: what holds between two of its turns -/
def uL9 (τ : qq_R) (a k : Nat) (v : Int64) : qq_R := (τ.1, up_2 τ.2.1 a k v, τ.2.2)
def uD (τ : qq_R) (a k : Nat) (v : UInt64) : qq_R := (τ.1, τ.2.1, up_2 τ.2.2.1 a k v, τ.2.2.2)
theorem wL_mk {I : qq_I} {τ : qq_R} {a k : Nat} {v : Int64} : wr_L (I, τ) a k v = (I, uL9 τ a k v) := rfl
theorem wD_mk {I : qq_I} {τ : qq_R} {a k : Nat} {v : UInt64} : wr_D (I, τ) a k v = (I, uD τ a k v) := rfl
theorem uL9_at {I : qq_I} {τ : qq_R} {a k : Nat} {v : Int64} : rd_L (I, uL9 τ a k v) a k = v := if_pos ⟨rfl, rfl⟩
theorem uD_at {I : qq_I} {τ : qq_R} {a k : Nat} {v : UInt64} : rd_D (I, uD τ a k v) a k = v := if_pos ⟨rfl, rfl⟩
theorem lgc {x : Int64} : (lg_cmp x x = iN 0) = True := eq_true ((lg_cmp_eq x x).mpr rfl)
/-- only longs and doubles differ -/
def Sq (τ τ' : qq_R) : Prop := τ'.1 = τ.1 ∧ τ'.2.2.2 = τ.2.2.2
theorem Sq_rf {τ : qq_R} : Sq τ τ := ⟨rfl, rfl⟩
theorem Sq_L {τ : qq_R} {a k : Nat} {v : Int64} : Sq τ (uL9 τ a k v) := ⟨rfl, rfl⟩
theorem Sq_D {τ : qq_R} {a k : Nat} {v : UInt64} : Sq τ (uD τ a k v) := ⟨rfl, rfl⟩
theorem Sq_K {τ τ' : qq_R} (h : Sq τ τ') (a : Nat) : tK τ' a = tK τ a := by unfold tK; rw [h.2]
theorem Sq_R {τ τ' : qq_R} (h : Sq τ τ') (a k : Nat) : tR τ' a k = tR τ a k := by unfold tR; rw [h.1]
theorem Sq_Z {τ τ' : qq_R} (h : Sq τ τ') : tZ τ' = tZ τ := by unfold tZ; rw [h.2]
theorem Sq_U {τ τ' : qq_R} (h : Sq τ τ') : tU τ' = tU τ := by unfold tU; rw [h.2]
theorem Sq_q {τ τ' : qq_R} (h : Sq τ τ') : Tq τ τ' := ⟨Nat.le_of_eq (Sq_Z h).symm, fun a _ => ⟨Sq_K h a, fun k => Sq_R h a k⟩⟩
/-- what a call of the law's wrapper leaves of an answer -/
def lwq (τ : qq_R) (o : Nat) : qR → qq_R
  | .inl v => uL9 τ o 0 v.toInt64
  | .inr _ => τ
theorem Sq_lw {τ : qq_R} {o : Nat} {q : qR} : Sq τ (lwq τ o q) := by
  cases q with
  | inl v => exact Sq_L
  | inr x => exact Sq_rf
theorem R_Y_same {I I' : qq_I} {m B : Nat} {C : sC} (h : R_Y I m B C) (hI : ∀ a, m ≤ a → a < m + 10 → I' a = I a) : R_Y I' m B C := by
  unfold R_Y at *
  rw [hI m (by omega) (by omega), hI (m + 4) (by omega) (by omega), hI (m + 5) (by omega) (by omega), hI (m + 7) (by omega) (by omega), hI (m + 8) (by omega) (by omega)]
  exact h
theorem R_N_same {I I' : qq_I} {τ τ' : qq_R} {m B : Nat} {C : sC} (h : R_N I τ m B C) (hT : Tr m 10 τ τ') (hI : ∀ a, m ≤ a → a < m + 10 → I' a = I a) : R_N I' τ' m B C :=
  ⟨L_N_T h.1 hT, by rw [hI (m + 1) (by omega) (by omega)]; exact h.2.1, R_Y_same h.2.2 hI⟩
theorem R_N_up {I : qq_I} {τ : qq_R} {m B B' : Nat} {C : sC} (h : R_N I τ m B C) (h1 : B ≤ B') (h2 : B' ≤ 900000) : R_N I τ m B' C := by
  obtain ⟨hL, hR, a1, a2, a3, a4, a5, a6, a7, a8, a9, a10, a11, a12, a13, a14, a15, a16, a17, a18, a19, a20⟩ := h
  exact ⟨hL, hR, wS_up a1 h1 h2, a2, a3, fun i hi => ⟨(a4 i hi).1, wS_up (a4 i hi).2 h1 h2⟩, a5, fun T hT => ⟨(a6 T hT).1, wS_up (a6 T hT).2 h1 h2⟩, a7, a8, a9, a10, a11, a12, a13, a14, a15, a16, a17, a18, a19, a20⟩
theorem R_C_out {I I' : qq_I} {τ τ' : qq_R} {c Z B : Nat} {C : sC} (h : R_C I τ c Z B C) (hT : Tq τ τ') (hI : ∀ a, (a < c + 238 ∨ Z ≤ a) → I' a = I a) : R_C I' τ' c Z B C := by
  obtain ⟨g1, g2, g3, g4, g5, x1, x2, x3, x4, x5, x6, x7, x8, x9, x10, x11, x12, x13, x14, x15, x16, x17⟩ := h
  have hZ := R_B_Z x11
  have ec : I' c = I c := hI c (by omega)
  refine ⟨L_C_T g1 (Tq_Tr hT (by omega)), R_R_same g2 (fun a _ _ => hI a (by omega)), g3, R_H_same g4 (fun a _ _ => hI a (by omega)), g5, x1, by rw [ec]; exact x2, fun T hT2 => ⟨R_R_same (x3 T hT2).1 (fun a _ _ => hI a (by omega)), (x3 T hT2).2⟩, by rw [ec]; exact x4, by rw [ec]; exact x5, by rw [ec]; exact x6, x7, x8, x9, x10, R_B_same x11 hT (fun a ha hb => hI a (by omega)), x12, x13, R_B_same x14 hT (fun a ha hb => hI a (by omega)), x15, x16, ?_⟩
  rw [(hT.2 _ (by omega)).2 0, (hT.2 _ (by omega)).2 0]; exact x17
/-- between two turns: the program at 70, the model at 308, the answers at 318 and 319, the script at 1 -/
def TI (L : Nat) (xs : Nat → Int32) (I : qq_I) (τ : qq_R) (B : Nat) (C : sC) : Prop := R_C I τ 70 320 B C ∧ R_N I τ 308 B C ∧ KC I τ ∧ tK τ 318 = (105, 1) ∧ tK τ 319 = (106, 1) ∧ tK τ 1 = (100, L) ∧ ∀ j, j < L → I 1 j = xs j
section TU
variable {L : Nat} {xs : Nat → Int32} {I I' I2 : qq_I} {τ τ' τ2 : qq_R} {B B1 n : Nat} {C C' : sC}
theorem TI_mid (h : TI L xs I τ B C) (hp : PC I τ 70 320 B1 I' τ' C') (h2 : Sq τ' τ2) : R_N I' τ2 308 B C ∧ R_C I' τ2 70 320 B1 C' ∧ KC I' τ2 ∧ tK τ2 318 = (105, 1) ∧ tK τ2 319 = (106, 1) ∧ tK τ2 1 = (100, L) ∧ I' 1 = I 1 := by
  obtain ⟨t1, t2, t3, t4, t5, t6, t7⟩ := h
  obtain ⟨p1, p2, p3, p4⟩ := hp
  have hz := (R_C_Z t1).2
  have hn : ∀ a, (308 ≤ a ∧ a < 320) ∨ a < 70 → ¬ ((70 ≤ a ∧ a < 70 + 238) ∨ 320 ≤ a) := fun a ha => by omega
  refine ⟨R_N_same t2 (fun a h1 h3 => ⟨(Sq_K h2 a).trans (Gf_K p2 (by omega)), fun k => (Sq_R h2 a k).trans (Gf_R p2 (by omega) (hn a (by omega)))⟩) (fun a h1 h3 => Gf_II p2 (by omega) (hn a (by omega))), R_C_out p1 (Sq_q h2) (fun _ _ => rfl), KC_same t3 (fun a ha => ⟨Gf_II p2 (by omega) (hn a (by omega)), (Sq_K h2 a).trans (Gf_K p2 (by omega)), fun k => (Sq_R h2 a k).trans (Gf_R p2 (by omega) (hn a (by omega)))⟩), ?_, ?_, ?_, Gf_II p2 (by omega) (hn 1 (by omega))⟩
  · rw [Sq_K h2, Gf_K p2 (by omega)]; exact t4
  · rw [Sq_K h2, Gf_K p2 (by omega)]; exact t5
  · rw [Sq_K h2, Gf_K p2 (by omega)]; exact t6
theorem TI_end (h : TI L xs I τ B C) (hB : B1 ≤ B + 660) (hB2 : B + 660 ≤ 900000) (hp : PC I τ 70 320 B1 I' τ' C') (h2 : Sq τ' τ2) (hn : PN 308 I' I2 τ2 B1 n C') : TI L xs I2 τ2 (B + 660) C' ∧ tZ τ2 ≤ tZ τ + 20 ∧ tU τ2 ≤ tU τ + 4000 := by
  obtain ⟨m1, m2, m3, m4, m5, m6, m7⟩ := TI_mid h hp h2
  obtain ⟨n1, n2, n3⟩ := hn
  have t7 := h.2.2.2.2.2.2
  have e1 := n3 1 (by omega)
  refine ⟨⟨R_C_up (R_C_out m2 Tq_rf (fun a ha => n3 a (by omega))) hB hB2, R_N_up n1 hB hB2, KC_same m3 (fun a ha => ⟨n3 a (by omega), rfl, fun _ => rfl⟩), m4, m5, m6, fun j hj => by rw [e1, m7]; exact t7 j hj⟩, ?_, ?_⟩
  · rw [Sq_Z h2]; exact hp.2.2.1
  · rw [Sq_U h2]; exact hp.2.2.2
theorem t_208 {d : Nat} (hL : L_N τ 308) (h7 : I 308 7 = iN n) : CC d 208 [.ref 308] (I, τ) = some (.inl (some (.int (iN n))), (I, τ)) := by
  have k0 := hL.2.1
  rw [c_208, b_208_0]
  simp only [kd_mk, k0, gd_true, rd_I_mk, h7]
/-- a mutator's answer as an asker's -/
def mq (g : Nat) (r : Int32) : qR := if g = 45 then .inl r else .inr (ecx g)
theorem mO_mq {g : Nat} {r : Int32} : mO g r = oO (mq g r) := by
  unfold mO mq
  split <;> rfl
theorem mV_mq {g : Nat} {r : Int32} : mV g r = qv (mq g r) := by
  unfold mV mq
  split <;> rfl
theorem tc_mq {g : Nat} {r : Int32} {l : List Nat} (h : g ≠ 45 → g ∈ l) (hl : ∀ x ∈ l, x = 105 ∨ x = 97 ∨ x = 115 ∨ x = 101 ∨ x = 117) : tc l g = qc (l.map ecx) (mq g r) := by
  unfold tc mq
  by_cases e : g = 45
  · rw [if_pos e, if_pos e]; rfl
  · rw [if_neg e, if_neg e]
    show l.idxOf g + 1 = (l.map ecx).idxOf (ecx g) + 1
    have hg := h e
    congr 1
    have inj : ∀ x, (x = 105 ∨ x = 97 ∨ x = 115 ∨ x = 101 ∨ x = 117) → ∀ y, (y = 105 ∨ y = 97 ∨ y = 115 ∨ y = 101 ∨ y = 117) → ecx x = ecx y → x = y := by
      intro x hx y hy
      rcases hx with h | h | h | h | h <;> rcases hy with h' | h' | h' | h' | h' <;> rw [h, h'] <;> decide
    clear h
    induction l with
    | nil => exact absurd hg List.not_mem_nil
    | cons a l ih =>
      rw [List.map_cons, List.idxOf_cons, List.idxOf_cons]
      by_cases y : a = g
      · rw [y]; simp
      · have y2 : ecx a ≠ ecx g := fun z => y (inj a (hl a List.mem_cons_self) g (hl g hg) z)
        rw [beq_eq_false_iff_ne.mpr y, beq_eq_false_iff_ne.mpr y2]
        have hg2 : g ∈ l := (List.mem_cons.mp hg).resolve_left (fun z => y z.symm)
        simp only [cond_false]
        rw [ih (fun x hx => hl x (List.mem_cons_of_mem _ hx)) hg2]
/-- an answer that is told, or an exception of a list -/
def qin (l : List Nat) : qR → Prop
  | .inl _ => True
  | .inr x => x ∈ l
theorem qin_mq {g : Nat} {r : Int32} {l : List Nat} (h : g ≠ 45 → g ∈ l) : qin (l.map ecx) (mq g r) := by
  unfold mq
  by_cases e : g = 45
  · rw [if_pos e]; trivial
  · rw [if_neg e]; exact List.mem_map_of_mem (h e)
end TU
