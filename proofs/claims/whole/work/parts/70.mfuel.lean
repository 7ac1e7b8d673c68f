/-! THE MODEL: as many follow as the class says -/
theorem pa_lt2 {U : sU} (hw : wU U) {k j : Nat} (hk : k < un U) (h : pa U k = some j) : j < k := by
  unfold pa at h
  by_cases z : w_ca (ug U k) = 0
  · rw [if_pos z] at h; cases h
  · rw [if_neg z] at h
    obtain ⟨i, hi, hca⟩ := ((hw.2.2.2 k hk).2.2.2.2.2.2).resolve_left z
    obtain ⟨h1, h2⟩ := fi_lt h
    rw [hca, Nat.add_sub_cancel] at h2
    have := id_inj hw h1 (show i < un U by omega) h2
    omega
theorem beU_low {U : sU} (hw : wU U) {q : Nat} : ∀ n k, k < q → k < un U → beU U q n k = false := by
  intro n
  induction n with
  | zero => intro k _ _; rfl
  | succ n ih =>
    intro k hk hku
    rw [beU, beq_eq_false_iff_ne.mpr (show k ≠ q by omega), Bool.false_or]
    cases hp : pa U k with
    | none => rfl
    | some j =>
      have := pa_lt2 hw hku hp
      exact ih j (by omega) (by omega)
theorem bhU_self {U : sU} (hw : wU U) {q n : Nat} (hq : q < un U) : bhU U q n q = false := by
  unfold bhU
  cases hp : pa U q with
  | none => rfl
  | some j =>
    have := pa_lt2 hw hq hp
    exact beU_low hw n j this (by omega)
theorem beU_fuel {U : sU} (hw : wU U) {q : Nat} : ∀ k n n', k < un U → k < n → k < n' → beU U q n k = beU U q n' k := by
  intro k
  induction k using Nat.strongRecOn with
  | ind k ih =>
    intro n n' hk h1 h2
    obtain ⟨i, rfl⟩ : ∃ i, n = i + 1 := ⟨n - 1, by omega⟩
    obtain ⟨i', rfl⟩ : ∃ i', n' = i' + 1 := ⟨n' - 1, by omega⟩
    rw [beU, beU]
    cases hp : pa U k with
    | none => rfl
    | some j =>
      have := pa_lt2 hw hk hp
      show (k == q || beU U q i j) = (k == q || beU U q i' j)
      rw [ih j this i i' (by omega) (by omega) (by omega)]
theorem beU_bhU {U : sU} (hw : wU U) {q k : Nat} (hk : k < un U) : beU U q 8 k = ((k == q) || bhU U q 8 k) := by
  have h8 := hw.1
  rw [beU_fuel hw k 8 9 hk (by omega) (by omega), beU]
  rfl
theorem cn_one {f g : Nat → Bool} {q : Nat} (hg : g q = false) : ∀ n, (∀ k, k < n → f k = ((k == q) || g k)) → cn f n = cn g n + (if q < n then 1 else 0) := by
  intro n
  induction n with
  | zero => intro _; rfl
  | succ n ih =>
    intro h
    have e1 : cn f (n + 1) = cn f n + (if f n = true then 1 else 0) := rfl
    have e2 : cn g (n + 1) = cn g n + (if g n = true then 1 else 0) := rfl
    rw [e1, e2, ih (fun k hk => h k (by omega)), h n (Nat.lt_succ_self _)]
    by_cases y : n = q
    · subst y
      rw [hg, beq_self_eq_true, Bool.true_or, if_pos rfl, if_neg (Nat.lt_irrefl _), if_neg (show ¬ (false = true) by decide), if_pos (Nat.lt_succ_self _)]
    · rw [beq_eq_false_iff_ne.mpr y, Bool.false_or]
      split <;> split <;> split <;> omega
theorem cn_behind {U : sU} (hw : wU U) {q : Nat} (hq : q < un U) : cn (fun k => beU U q 8 k) (un U) = cn (fun k => bhU U q 8 k) (un U) + 1 := by
  rw [cn_one (g := fun k => bhU U q 8 k) (q := q) (bhU_self hw hq) (un U) (fun k hk => beU_bhU hw hk), if_pos hq]
