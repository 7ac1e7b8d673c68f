/-! STATES AS NUMBERS -/
/-- the first of n numbers from i on with a property -/
def ff (f : Nat → Prop) [DecidablePred f] : Nat → Nat → Option Nat
  | _, 0 => none
  | i, n + 1 => if f i then some i else ff f (i + 1) n
def oN : Option Nat → Int32
  | none => m1
  | some k => iN k
theorem ff_some {f : Nat → Prop} [DecidablePred f] : ∀ (n i k : Nat), ff f i n = some k → i ≤ k ∧ k < i + n ∧ f k ∧ ∀ j, i ≤ j → j < k → ¬ f j := by
  intro n
  induction n with
  | zero => intro i k h; cases h
  | succ n ih =>
    intro i k h
    simp only [ff] at h
    by_cases hf : f i
    · rw [if_pos hf] at h
      cases h
      exact ⟨Nat.le_refl _, by omega, hf, fun j h1 h2 => by omega⟩
    · rw [if_neg hf] at h
      obtain ⟨h1, h2, h3, h4⟩ := ih _ _ h
      refine ⟨by omega, by omega, h3, fun j q1 q2 => ?_⟩
      by_cases hj : j = i
      · subst hj; exact hf
      · exact h4 j (by omega) q2
theorem ff_none {f : Nat → Prop} [DecidablePred f] : ∀ (n i : Nat), ff f i n = none ↔ ∀ j, i ≤ j → j < i + n → ¬ f j := by
  intro n
  induction n with
  | zero => intro i; exact ⟨fun _ j h1 h2 => by omega, fun _ => rfl⟩
  | succ n ih =>
    intro i
    simp only [ff]
    by_cases hf : f i
    · rw [if_pos hf]
      exact ⟨(fun h => nomatch h), fun h => absurd hf (h i (Nat.le_refl _) (by omega))⟩
    · rw [if_neg hf, ih]
      constructor
      · intro h j q1 q2
        by_cases hj : j = i
        · subst hj; exact hf
        · exact h j (by omega) (by omega)
      · exact fun h j q1 q2 => h j (by omega) (by omega)
theorem ff_is {f : Nat → Prop} [DecidablePred f] {n k : Nat} (h1 : k < n) (h2 : f k) (h3 : ∀ j, j < k → ¬ f j) : ff f 0 n = some k := by
  cases h : ff f 0 n with
  | none => exact absurd h2 ((ff_none n 0).mp h k (by omega) (by omega))
  | some j =>
    obtain ⟨-, h4, h5, h6⟩ := ff_some n 0 j h
    rcases Nat.lt_trichotomy j k with q | q | q
    · exact absurd h5 (h3 j q)
    · rw [q]
    · exact absurd h2 (h6 k (by omega) q)
theorem oN_m1 {o : Option Nat} (h : ∀ k, o = some k → k < 2147483648) : (oN o = m1) = (o = none) := by
  cases o with
  | none => exact (eq_true rfl).trans (eq_true rfl).symm
  | some k => exact (iN_ne_m1 (h k rfl)).trans (eq_false (fun z => nomatch z)).symm
/-- a function with one value changed -/
def fu {α : Type} (f : Nat → α) (k : Nat) (v : α) : Nat → α := fun j => if j = k then v else f j
theorem fu_at {α : Type} {f : Nat → α} {k : Nat} {v : α} : fu f k v k = v := if_pos rfl
theorem fu_ne {α : Type} {f : Nat → α} {k j : Nat} {v : α} (h : j ≠ k) : fu f k v j = f j := if_neg h
/-- a writ: id, statue, last night, bail, paid, cause (an id and 1, or 0) -/
abbrev sW : Type := Nat × Nat × Nat × Nat × Nat × Nat
def w_id (w : sW) : Nat := w.1
def w_of (w : sW) : Nat := w.2.1
def w_la (w : sW) : Nat := w.2.2.1
def w_ba (w : sW) : Nat := w.2.2.2.1
def w_pd (w : sW) : Nat := w.2.2.2.2.1
def w_ca (w : sW) : Nat := w.2.2.2.2.2
/-- pedestals, arrows, statues, weights, places, homes, the ranking -/
abbrev sP : Type := Nat × (Nat → Nat) × Nat × (Nat → Nat) × (Nat → Nat) × (Nat → Nat) × List Nat
def p_np (P : sP) : Nat := P.1
def p_ar (P : sP) : Nat → Nat := P.2.1
def p_ns (P : sP) : Nat := P.2.2.1
def p_we (P : sP) : Nat → Nat := P.2.2.2.1
def p_pl (P : sP) : Nat → Nat := P.2.2.2.2.1
def p_ho (P : sP) : Nat → Nat := P.2.2.2.2.2.1
def p_hf (P : sP) : List Nat := P.2.2.2.2.2.2
/-- the writs and the next id -/
abbrev sU : Type := List sW × Nat
/-- blocks, treasury, account -/
abbrev sM : Type := (Nat → Nat) × Int32 × Int32
/-- night, hearing night and 1 (0: none), upheld, dismissed, lapsed -/
abbrev sN : Type := Nat × Nat × Int32 × Int32 × Int32
abbrev sS : Type := sP × sU × sM × sN
def hv (we : Nat → Nat) (a b : Nat) : Prop := we b < we a ∨ we a = we b ∧ a < b
/-- a plaza as it must be -/
def wP (P : sP) : Prop := p_np P ≤ 8 ∧ p_ns P ≤ 6 ∧ (∀ k, k < p_np P → p_ar P k < p_np P) ∧ (∀ k, k < p_ns P → 1 ≤ p_we P k ∧ p_we P k ≤ 99 ∧ p_pl P k < p_np P ∧ p_ho P k < p_np P) ∧
  (∀ i j, i < p_ns P → j < p_ns P → p_pl P i = p_pl P j → i = j) ∧ (p_hf P).Perm (List.range (p_ns P)) ∧ (p_hf P).Pairwise (hv (p_we P))
/-- who stands on a pedestal -/
def onP (P : sP) (x : Nat) : Option Nat := ff (fun k => p_pl P k = x) 0 (p_ns P)
/-! THE CLASS'S CELLS: where they lie -/
def L_P (τ : qq_R) (p : Nat) : Prop := 70 ≤ p ∧ tK τ p = (7, 0) ∧ tR τ p 1 = p + 1 ∧ tR τ p 3 = p + 2 ∧ tR τ p 4 = p + 3 ∧ tR τ p 5 = p + 4 ∧ tR τ p 6 = p + 5 ∧
  tK τ (p + 1) = (100, 8) ∧ tK τ (p + 2) = (100, 6) ∧ tK τ (p + 3) = (100, 6) ∧ tK τ (p + 4) = (100, 6) ∧ tK τ (p + 5) = (100, 6)
def L_W (τ : qq_R) (p : Nat) : Prop := 70 ≤ p ∧ tK τ p = (11, 0) ∧ tR τ p 2 = p + 1 ∧ tR τ p 3 = p + 2 ∧ tR τ p 4 = p + 3 ∧ tR τ p 5 = p + 4 ∧ tR τ p 6 = p + 5 ∧ tR τ p 7 = p + 6 ∧
  tK τ (p + 1) = (100, 8) ∧ tK τ (p + 2) = (100, 8) ∧ tK τ (p + 3) = (100, 8) ∧ tK τ (p + 4) = (100, 8) ∧ tK τ (p + 5) = (100, 8) ∧ tK τ (p + 6) = (101, 8)
def L_M (τ : qq_R) (p : Nat) : Prop := 70 ≤ p ∧ tK τ p = (6, 0) ∧ tR τ p 0 = p + 1 ∧ tR τ p 1 = p + 2 ∧ tK τ (p + 1) = (100, 21) ∧ tK τ (p + 2) = (100, 21)
def L_R (τ : qq_R) (b : Nat) : Prop := 70 ≤ b ∧ tK τ b = (8, 0) ∧ tR τ b 0 = b + 1 ∧ tR τ b 1 = b + 7 ∧ tR τ b 2 = b + 14 ∧ L_P τ (b + 1) ∧ L_W τ (b + 7) ∧ L_M τ (b + 14)
/-- the plaza at p holds P -/
def R_P (I : qq_I) (p : Nat) (P : sP) : Prop := I p 0 = iN (p_np P) ∧ I p 2 = iN (p_ns P) ∧ (∀ k, k < p_np P → I (p + 1) k = iN (p_ar P k)) ∧ (∀ k, k < p_ns P → I (p + 2) k = iN (p_we P k)) ∧
  (∀ k, k < p_ns P → I (p + 3) k = iN (p_pl P k)) ∧ (∀ k, k < p_ns P → I (p + 4) k = iN (p_ho P k)) ∧ (∀ k, k < p_ns P → I (p + 5) k = iN ((p_hf P).getD k 0))
theorem R_P_same {I I' : qq_I} {p : Nat} {P : sP} (h : R_P I p P) (hs : ∀ a, p ≤ a → a < p + 6 → I' a = I a) : R_P I' p P := by
  obtain ⟨h1, h2, h3, h4, h5, h6, h7⟩ := h
  refine ⟨by rw [hs p (by omega) (by omega)]; exact h1, by rw [hs p (by omega) (by omega)]; exact h2, fun k hk => by rw [hs _ (by omega) (by omega)]; exact h3 k hk, fun k hk => by rw [hs _ (by omega) (by omega)]; exact h4 k hk, fun k hk => by rw [hs _ (by omega) (by omega)]; exact h5 k hk, fun k hk => by rw [hs _ (by omega) (by omega)]; exact h6 k hk, fun k hk => by rw [hs _ (by omega) (by omega)]; exact h7 k hk⟩
