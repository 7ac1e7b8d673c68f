/-! THE DOCKET: a set fits night by night as it fits writ by writ -/
def bitB (s i : Nat) : Bool := decide (s / 2 ^ i % 2 = 1)
def valU (U : sU) (s n : Nat) : Nat := su (fun i => if bitB s i = true then ba U i else 0) n
def cntU (U : sU) (s L n : Nat) : Nat := cn (fun j => bitB s j && decide (la U j ≤ L)) n
abbrev fitsP (U : sU) (f s : Nat) : Prop := ∀ i, i < un U → bitB s i = true → cntU U s (la U i) (un U) + f ≤ la U i + 1
theorem su_list {F : Nat → Nat} : ∀ n, su F n = ((List.range n).map F).sum := by
  intro n
  induction n with
  | zero => rfl
  | succ n ih => rw [List.range_succ, List.map_append, List.sum_append, ← ih, su]; simp
theorem ow_list (U : sU) : (List.range (un U)).map (ow U) = od U (un U) := by
  have hl := od_len U (un U)
  refine List.ext_getElem (by rw [List.length_map, List.length_range, hl]) (fun i h1 h2 => ?_)
  rw [List.getElem_map, List.getElem_range]
  unfold ow
  rw [getD_lt h2]
theorem su_ow (U : sU) (F : Nat → Nat) : su (fun r => F (ow U r)) (un U) = su F (un U) := by
  rw [su_list, su_list]
  have e : (List.range (un U)).map (fun r => F (ow U r)) = ((List.range (un U)).map (ow U)).map F := by rw [List.map_map]; rfl
  rw [e, ow_list]
  exact ((od_ok U (un U)).1.map F).sum_nat
theorem cn_ow (U : sU) (F : Nat → Bool) : cn (fun r => F (ow U r)) (un U) = cn F (un U) := su_ow U (fun k => if F k = true then 1 else 0)
theorem cn_mono {f : Nat → Bool} {n : Nat} : ∀ m, n ≤ m → cn f n ≤ cn f m := by
  intro m
  induction m with
  | zero => intro h; rw [show n = 0 by omega]; exact Nat.le_refl _
  | succ m ih =>
    intro h
    by_cases e : n = m + 1
    · rw [e]; exact Nat.le_refl _
    · have := ih (by omega)
      by_cases y : f m = true
      · rw [cn_y y]; omega
      · rw [cn_n y]; exact this
theorem ow_all {U : sU} {i : Nat} (hi : i < un U) : ∃ r, r < un U ∧ ow U r = i := by
  have hl := od_len U (un U)
  have hm : i ∈ od U (un U) := (od_ok U (un U)).1.mem_iff.mpr (List.mem_range.mpr hi)
  obtain ⟨r, hr, e⟩ := List.getElem_of_mem hm
  refine ⟨r, by omega, ?_⟩
  unfold ow
  rw [getD_lt hr]; exact e
theorem okW_cnt {L : Nat → Nat} {f N : Nat} (hm : ∀ r s, r ≤ s → s < N → L r ≤ L s) {ch : Nat → Bool} (X : Nat) : ∀ n, n ≤ N → okW L f ch n → cn (fun q => ch q && decide (L q ≤ X)) n = 0 ∨ f + cn (fun q => ch q && decide (L q ≤ X)) n ≤ X + 1 := by
  intro n
  induction n with
  | zero => intro _ _; exact Or.inl rfl
  | succ n ih =>
    intro hn h
    have i := ih (by omega) (fun r hr => h r (by omega))
    by_cases y : (ch n && decide (L n ≤ X)) = true
    · have y2 := y
      rw [Bool.and_eq_true, decide_eq_true_eq] at y2
      have e : cn (fun q => ch q && decide (L q ≤ X)) n = cn ch n := cn_cong n (fun k hk => by
        rw [decide_eq_true (Nat.le_trans (hm k n (by omega) (by omega)) y2.2), Bool.and_true])
      have hk := h n (Nat.lt_succ_self _) y2.1
      right
      rw [cn_y (f := fun q => ch q && decide (L q ≤ X)) y, e]
      omega
    · rw [cn_n (f := fun q => ch q && decide (L q ≤ X)) y]; exact i
theorem okW_fits (U : sU) (f s : Nat) : okW (fun r => la U (ow U r)) f (fun r => bitB s (ow U r)) (un U) ↔ fitsP U f s := by
  have hm : ∀ r s, r ≤ s → s < un U → la U (ow U r) ≤ la U (ow U s) := fun r s h hs => ow_la h hs
  have hc : ∀ X, cn (fun q => bitB s (ow U q) && decide (la U (ow U q) ≤ X)) (un U) = cntU U s X (un U) := fun X => cn_ow U (fun j => bitB s j && decide (la U j ≤ X))
  constructor
  · intro h i hi hb
    obtain ⟨r, hr, rfl⟩ := ow_all hi
    have h1 := okW_cnt (L := fun r => la U (ow U r)) (ch := fun r => bitB s (ow U r)) hm (la U (ow U r)) (un U) (Nat.le_refl _) h
    rcases h1 with h1 | h1
    · have := cn_zero _ h1 r hr
      rw [hb, decide_eq_true (Nat.le_refl _)] at this
      exact Bool.noConfusion this
    · rw [hc] at h1
      omega
  · intro h r hr hb
    have h1 := h (ow U r) (ow_lt hr) hb
    rw [← hc] at h1
    have h2 := cn_mono (f := fun q => bitB s (ow U q) && decide (la U (ow U q) ≤ la U (ow U r))) (n := r + 1) (un U) hr
    have e : cn (fun q => bitB s (ow U q) && decide (la U (ow U q) ≤ la U (ow U r))) (r + 1) = cn (fun q => bitB s (ow U q)) (r + 1) := cn_cong _ (fun k hk => by
      rw [decide_eq_true (hm k r (by omega) hr), Bool.and_true])
    have e2 : cn (fun q => bitB s (ow U q)) (r + 1) = cn (fun q => bitB s (ow U q)) r + 1 := cn_y (f := fun q => bitB s (ow U q)) hb
    show f + cn (fun q => bitB s (ow U q)) r ≤ la U (ow U r)
    omega
theorem vset_fits (U : sU) (f s : Nat) : vset U f s = if fitsP U f s then valU U s (un U) else 0 := by
  unfold vset
  rw [vsr_wk]
  show (match wk (fun r => la U (ow U r)) (fun r => ba U (ow U r)) f (fun r => bitB s (ow U r)) (un U) with
    | none => 0
    | some (_, v) => v) = _
  by_cases h : fitsP U f s
  · rw [if_pos h, wk_some _ ((okW_fits U f s).mpr h)]
    show vs (fun r => ba U (ow U r)) (fun r => bitB s (ow U r)) (un U) = _
    exact su_ow U (fun i => if bitB s i = true then ba U i else 0)
  · rw [if_neg h, wk_none _ (fun q => h ((okW_fits U f s).mp q))]
/-! THE DOCKET: a writ's rank is how many come before it -/
def ckB (U : sU) (a b : Nat) : Bool := decide (la U a < la U b) || (decide (la U a = la U b) && (decide (ba U b < ba U a) || (decide (ba U a = ba U b) && decide (a < b))))
theorem ckB_iff {U : sU} {a b : Nat} : ckB U a b = true ↔ ck U a b := by
  unfold ckB ck
  rw [Bool.or_eq_true, Bool.and_eq_true, Bool.or_eq_true, Bool.and_eq_true, decide_eq_true_eq, decide_eq_true_eq, decide_eq_true_eq, decide_eq_true_eq, decide_eq_true_eq]
theorem ckB_f {U : sU} {a b : Nat} (h : ¬ ck U a b) : ckB U a b = false := by
  cases q : ckB U a b with
  | false => rfl
  | true => exact absurd (ckB_iff.mp q) h
theorem ck_asym {U : sU} {a b : Nat} (h : ck U a b) : ¬ ck U b a := by
  unfold ck at *
  omega
theorem cn_ord {g : Nat → Nat → Bool} {o : Nat → Nat} {r : Nat} : ∀ n, (∀ q, q < n → g (o q) (o r) = decide (q < r)) → cn (fun q => g (o q) (o r)) n = min n r := by
  intro n
  induction n with
  | zero => intro _; exact (Nat.zero_min _).symm
  | succ n ih =>
    intro h
    have i := ih (fun q hq => h q (by omega))
    have hn := h n (Nat.lt_succ_self _)
    by_cases y : n < r
    · rw [decide_eq_true y] at hn
      rw [cn_y (f := fun q => g (o q) (o r)) hn, i]; omega
    · rw [decide_eq_false y] at hn
      rw [cn_n (f := fun q => g (o q) (o r)) (by rw [hn]; decide), i]; omega
def rnk (U : sU) (i : Nat) : Nat := cn (fun j => !(j == i) && ckB U j i) (un U)
theorem rnk_ow {U : sU} {r : Nat} (hr : r < un U) : rnk U (ow U r) = r := by
  unfold rnk
  rw [← cn_ow U (fun j => !(j == ow U r) && ckB U j (ow U r))]
  have := cn_ord (g := fun a b => !(a == b) && ckB U a b) (o := ow U) (r := r) (un U) (fun q hq => by
    rcases Nat.lt_trichotomy q r with z | z | z
    · have h1 := ow_ck z hr
      have h2 : ow U q ≠ ow U r := fun e => by have := ow_inj hq hr e; omega
      rw [ckB_iff.mpr h1, decide_eq_true z, beq_eq_false_iff_ne.mpr h2]; rfl
    · rw [z, beq_self_eq_true, decide_eq_false (Nat.lt_irrefl _)]; rfl
    · have h1 := ow_ck z hq
      rw [ckB_f (ck_asym h1), decide_eq_false (by omega), Bool.and_false])
  exact this.trans (Nat.min_eq_right (by omega))
theorem rnk_ff {U : sU} (hw : wU U) (x : Int32) : ff (fun i => iN (rnk U i) == x) 0 (un U) = if inN (un U) x = true then some (ow U (tn x)) else none := by
  have w3 := hw.1
  have hah : ∀ s, s < un U → rnk U s < un U := fun s hs => by
    obtain ⟨r, h1, h2⟩ := ow_all hs
    rw [← h2, rnk_ow h1]; exact h1
  cases hx : inN (un U) x with
  | false =>
    rw [if_neg (by decide)]
    refine (ff_none _ _).mpr (fun j h1 h2 h3 => ?_)
    have hj := hah j (by omega)
    rw [beq_iff_eq] at h3
    have : inN (un U) x = true := (inN_iff (by omega)).mpr ⟨_, hj, h3.symm⟩
    rw [hx] at this
    exact absurd this (by decide)
  | true =>
    obtain ⟨r, hr, rfl⟩ := (inN_iff (by omega)).mp hx
    rw [if_pos rfl, tn_iN (by omega)]
    refine ff_is (ow_lt hr) (by rw [rnk_ow hr]; exact beq_iff_eq.mpr rfl) (fun j hj h3 => ?_)
    obtain ⟨i, h1, h2⟩ := ow_all (U := U) (i := j) (by have := ow_lt (U := U) hr; omega)
    rw [beq_iff_eq, ← h2, rnk_ow h1, iN_eq (by omega) (by omega)] at h3
    rw [h3] at h2
    omega
