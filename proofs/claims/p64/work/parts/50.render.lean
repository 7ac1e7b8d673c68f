/-! PUBLIC CALLS: rendering -/
/-- the strings among the constants -/
def ktab : List (Nat × List Nat) := [(3, [97, 114, 114, 111, 119, 32]), (5, [59, 110, 105, 103, 104, 116]), (7, [98, 108, 111, 99, 107, 32]), (9, [32, 51, 59, 112, 97, 121, 32]), (11, [119, 114, 105, 116, 32]), (13, [32, 51, 32]), (15, [59, 104, 111, 109, 101, 32]), (17, [48, 59, 104, 101, 97, 114, 32]), (19, [32, 50, 32, 53, 60]), (21, [59, 110, 105, 103, 104, 116, 32, 50]), (23, [97, 114, 114, 111, 119, 32]), (25, [97, 114, 114, 111, 119, 32]), (27, [97, 114, 114, 111, 119, 32]), (29, [97, 114, 114, 111, 119, 32]), (31, [97, 114, 114, 111, 119, 32]), (33, [97, 114, 114, 111, 119, 32]), (35, [97, 114, 114, 111, 119, 32]), (37, [97, 114, 114, 111, 119, 32]), (39, [112, 101, 100, 101, 115, 116, 97, 108]), (41, [97, 114, 114, 111, 119, 32, 35, 35]), (43, [115, 116, 97, 116, 117, 101, 32, 35, 32, 37]), (45, [104, 111, 109, 101, 32, 35, 35]), (47, [119, 114, 105, 116, 32, 35, 32, 37, 32, 37, 91, 60, 37, 93]), (49, [98, 108, 111, 99, 107, 32, 37, 32, 35]), (51, [112, 97, 121, 32, 37]), (53, [104, 101, 97, 114, 32, 37]), (55, [110, 105, 103, 104, 116, 91, 32, 37, 93])]
/-- the constants -/
def KC (I : qq_I) (τ : qq_R) : Prop := KD I τ ∧ (∀ p ∈ ktab, St I τ p.1 p.2) ∧ tK τ 66 = (112, 9) ∧ (∀ i, i < 9 → tR τ 66 i = 57 + i ∧ tK τ (57 + i) = (1, 0) ∧ I (57 + i) 0 = iN i ∧ tR τ (57 + i) 1 = 39 + 2 * i) ∧ tK τ 67 = (100, 9) ∧ (∀ i, i < 9 → I 67 i = iN (if i < 8 then i + 1 else 0))
theorem KC_same {I I' : qq_I} {τ τ' : qq_R} (h : KC I τ) (hs : ∀ a, a < 70 → I' a = I a ∧ tK τ' a = tK τ a ∧ ∀ k, tR τ' a k = tR τ a k) : KC I' τ' := by
  obtain ⟨⟨h1, h2, h3, h4⟩, h5, h6, h7, h8, h9⟩ := h
  refine ⟨⟨(hs 68 (by omega)).2.1.trans h1, (hs 69 (by omega)).2.1.trans h2, fun i hi => by rw [(hs 68 (by omega)).1]; exact h3 i hi, fun i hi => by rw [(hs 69 (by omega)).1]; exact h4 i hi⟩, fun p hp => St_same (h5 p hp) hs, (hs 66 (by omega)).2.1.trans h6, fun i hi => ?_, (hs 67 (by omega)).2.1.trans h8, fun i hi => by rw [(hs 67 (by omega)).1]; exact h9 i hi⟩
  obtain ⟨a1, a2, a3, a4⟩ := h7 i hi
  exact ⟨((hs 66 (by omega)).2.2 i).trans a1, (hs (57 + i) (by omega)).2.1.trans a2, by rw [(hs (57 + i) (by omega)).1]; exact a3, ((hs (57 + i) (by omega)).2.2 1).trans a4⟩
theorem KC_gf {A : Nat → Prop} {I I' : qq_I} {τ τ' : qq_R} (h : KC I τ) (hG : Gf A I τ I' τ') (hz : 70 ≤ tZ τ) (hA : ∀ a, a < 70 → ¬ A a) : KC I' τ' :=
  KC_same h (fun a ha => ⟨Gf_II hG (by omega) (hA a ha), Gf_K hG (by omega), fun _ => Gf_R hG (by omega) (hA a ha)⟩)
section RE
variable {d : Nat} {I I' J : qq_I} {τ τ' ρ : qq_R} {c Z B k : Nat} {C : sC} {l : List Nat}
/-- what is there while the output is being written -/
def WO (I : qq_I) (τ : qq_R) (c Z k : Nat) (J : qq_I) (ρ : qq_R) (l : List Nat) : Prop := PB I τ (c + 236) Z k J ρ l ∧ KC J ρ ∧ (∀ a, a < c + 221 → J a = I a ∧ tK ρ a = tK τ a ∧ ∀ j, tR ρ a j = tR τ a j) ∧ tK ρ (c + 236) = (2, 0)
theorem WO_of (h : R_C I τ c Z B C) (hK : KC I τ) (hP : PB I τ (c + 236) Z k J ρ l) : WO I τ c Z k J ρ l := by
  have hz := R_C_Z h
  have c70 := h.1.1
  obtain ⟨v1, v2⟩ := R_B_v h.2.2.2.2.2.2.2.2.2.2.2.2.2.2.2.2.2.2.1
  have p2 := hP.2.1
  have hn : ∀ a, a < c + 221 → ¬ (a = c + 236 ∨ a = tR τ (c + 236) 0) := fun a ha => by omega
  exact ⟨hP, KC_gf hK p2 (by omega) (fun a ha => hn a (by omega)), fun a ha => ⟨Gf_II p2 (by omega) (hn a ha), Gf_K p2 (by omega), fun j => Gf_R p2 (by omega) (hn a ha)⟩, hP.1.2.2.2.1⟩
theorem w_char (h : R_C I τ c Z B C) (hK : KC I τ) (hW : WO I τ c Z k J ρ l) (hl : l.length ≤ 60) {x : Nat} (hx : x < 128) : ∃ J' ρ', CC (d + 39) 2 [.ref (c + 236), .int (iN x)] (J, ρ) = some (.inl (some (.ref (c + 236))), (J', ρ')) ∧ WO I τ c Z (k + 1) J' ρ' (l ++ [x]) := by
  obtain ⟨J', ρ', q1, q2⟩ := c_appendChar (d := d + 35) hW.1.1 hl hx
  exact ⟨J', ρ', q1, WO_of h hK (PB_tr hW.1 q2)⟩
theorem w_int (h : R_C I τ c Z B C) (hK : KC I τ) (hW : WO I τ c Z k J ρ l) {n : Nat} (hn : n < 1000000) (hl : l.length + (dg n).length ≤ 61) : ∃ J' ρ', CC (d + 39) 19 [.ref (c + 236), .int (iN n)] (J, ρ) = some (.inl (some (.ref (c + 236))), (J', ρ')) ∧ WO I τ c Z (k + 1) J' ρ' (l ++ dg n) := by
  obtain ⟨J', ρ', q1, q2⟩ := c_appendInt (d := d + 35) hW.2.1.1 hW.1.1 hn hl
  exact ⟨J', ρ', q1, WO_of h hK (PB_tr hW.1 q2)⟩
theorem dg_len2 {n : Nat} (h : n < 100) : (dg n).length ≤ 2 := by
  by_cases q : n < 10
  · rw [dg_s q]; exact Nat.le_succ _
  · rw [dg_m q h]; exact Nat.le_refl _
theorem dg_len6 {n : Nat} (h : n < 1000000) : (dg n).length ≤ 6 := by
  rcases (show n < 10 ∨ (10 ≤ n ∧ n < 100) ∨ (100 ≤ n ∧ n < 1000) ∨ (1000 ≤ n ∧ n < 10000) ∨ (10000 ≤ n ∧ n < 100000) ∨ 100000 ≤ n by omega) with q | q | q | q | q | q
  · rw [dg_len 1 n (by omega) (by omega) (Or.inl rfl)]; omega
  · rw [dg_len 2 n (by omega) (by omega) (Or.inr (by omega))]; omega
  · rw [dg_len 3 n (by omega) (by omega) (Or.inr (by omega))]; omega
  · rw [dg_len 4 n (by omega) (by omega) (Or.inr (by omega))]; omega
  · rw [dg_len 5 n (by omega) (by omega) (Or.inr (by omega))]; omega
  · rw [dg_len 6 n (by omega) (by omega) (Or.inr (by omega))]; omega
/-- a statue written -/
theorem app_c {l m : List Nat} (h1 : ∀ x ∈ l, x < 128) (h2 : ∀ x ∈ m, x < 128) : ∀ x ∈ l ++ m, x < 128 := fun x hx => by
  rcases List.mem_append.mp hx with hx | hx
  · exact h1 x hx
  · exact h2 x hx
theorem dg_128 (n : Nat) : ∀ x ∈ dg n, x < 128 := fun x hx => by have := dg_c n x hx; omega
theorem one_128 {n : Nat} (h : n < 128) : ∀ x ∈ [n], x < 128 := fun x hx => by rw [List.mem_singleton] at hx; omega
end RE
