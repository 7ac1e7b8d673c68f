/-! WHAT THE LAW ASKS OF A STATE: pure -/
/-- the ways round -/
theorem rl_it {P : sP} (hw : wP P) {x : Nat} (hx : x < p_np P) : it (p_ar P) (8 + rlen P x) x = it (p_ar P) 8 x := by
  obtain ⟨h1, h2, h3, -⟩ := rlen_ok hw hx
  have h8 := hw.1
  have e : (8 : Nat) = (8 - p_np P) + p_np P := by omega
  have e1 : 8 + rlen P x = (8 - p_np P) + (rlen P x + p_np P) := by omega
  rw [e1, it_add, it_add, h3]
  conv => rhs; rw [e, it_add]
/-- who stands where -/
theorem on_pl {P : sP} (hw : wP P) {k : Nat} (hk : k < p_ns P) : onP P (p_pl P k) = some k := by
  refine ff_is hk (beq_iff_eq.mpr rfl) (fun j hj e => ?_)
  have := hw.2.2.2.2.1 j k (by omega) hk (beq_iff_eq.mp e)
  omega
theorem on_some {P : sP} {x j : Nat} (h : onP P x = some j) : j < p_ns P ∧ p_pl P j = x := by
  obtain ⟨-, h2, h3, -⟩ := ff_some _ _ _ h
  exact ⟨by omega, beq_iff_eq.mp h3⟩
/-! causes -/
theorem dp_step {U : sU} (hw : wU U) {k j : Nat} (hk : k < un U) (h : pa U k = some j) : dpU U 8 k = dpU U 8 j + 1 := by
  obtain ⟨h1, -⟩ := pa_lt hw hk h
  have h8 := hw.1
  have e : dpU U 8 k = dpU U 7 j + 1 := by
    show (match pa U k with | none => 0 | some j => dpU U 7 j + 1) = _
    rw [h]
  rw [e, dpU_st hw 7 j (by omega) (by omega)]
theorem dp_none {U : sU} {k : Nat} (h : pa U k = none) : dpU U 8 k = 0 := by
  show (match pa U k with | none => 0 | some j => dpU U 7 j + 1) = _
  rw [h]
theorem be_step {U : sU} (hw : wU U) {q k j : Nat} (hk : k < un U) (h : pa U k = some j) : beU U q 8 k = ((k == q) || beU U q 8 j) := by
  obtain ⟨h1, -⟩ := pa_lt hw hk h
  have h8 := hw.1
  have e : beU U q 8 k = ((k == q) || beU U q 7 j) := by
    show ((k == q) || (match pa U k with | none => false | some j => beU U q 7 j)) = _
    rw [h]
  rw [e, beU_st hw 7 j (by omega) (by omega)]
theorem be_none {U : sU} {q k : Nat} (h : pa U k = none) : beU U q 8 k = (k == q) := by
  show ((k == q) || (match pa U k with | none => false | some j => beU U q 7 j)) = _
  rw [h, Bool.or_false]
theorem su_add (f g : Nat → Nat) : ∀ n, su (fun k => f k + g k) n = su f n + su g n := by
  intro n
  induction n with
  | zero => rfl
  | succ n ih => rw [su, su, su, ih]; omega
theorem su_zero : ∀ n, su (fun _ => 0) n = 0 := by
  intro n
  induction n with
  | zero => rfl
  | succ n ih => rw [su, ih]
theorem su_swap (F : Nat → Nat → Nat) : ∀ n m, su (fun i => su (fun j => F i j) m) n = su (fun j => su (fun i => F i j) n) m := by
  intro n m
  induction n with
  | zero => exact (su_zero m).symm
  | succ n ih =>
    rw [su, ih, ← su_add]
    rfl
theorem su_one {n k : Nat} : su (fun i => if i = k then 1 else 0) n = if k < n then 1 else 0 := by
  induction n with
  | zero => rfl
  | succ n ih =>
    rw [su, ih]
    by_cases h : k < n
    · rw [if_pos h, if_neg (by omega), if_pos (by omega)]
    · rw [if_neg h]
      by_cases h2 : n = k
      · rw [if_pos h2, if_pos (by omega)]
      · rw [if_neg h2, if_neg (by omega)]
/-- a writ is behind itself and the causes above it -/
theorem be_cnt {U : sU} (hw : wU U) : ∀ m k, k < m → k < un U → cn (fun q => beU U q 8 k) (un U) = dpU U 8 k + 1 := by
  intro m
  induction m with
  | zero => intro k h; omega
  | succ m ih =>
    intro k hm hk
    have e1 : su (fun i => if i = k then 1 else 0) (un U) = 1 := by rw [su_one, if_pos hk]
    cases hp : pa U k with
    | none =>
      refine (su_cong (f := fun q => if beU U q 8 k = true then 1 else 0) (g := fun i => if i = k then 1 else 0) _ (fun q hq => ?_)).trans ?_
      · skip
        rw [be_none hp]
        by_cases h : q = k
        · rw [if_pos h, if_pos (beq_iff_eq.mpr h.symm)]
        · rw [if_neg h, if_neg (fun z => h (beq_iff_eq.mp z).symm)]
      · rw [e1, dp_none hp]
    | some j =>
      obtain ⟨h1, -⟩ := pa_lt hw hk hp
      have ih' : su (fun q => if beU U q 8 j = true then 1 else 0) (un U) = dpU U 8 j + 1 := ih j (by omega) (by omega)
      refine (su_cong (f := fun q => if beU U q 8 k = true then 1 else 0) (g := fun q => (if beU U q 8 j = true then 1 else 0) + (if q = k then 1 else 0)) _ (fun q hq => ?_)).trans ?_
      · skip
        rw [be_step hw hk hp]
        by_cases h : q = k
        · rw [h, if_pos (by simp), beU_lt hw 8 j (by omega) h1, if_pos rfl]
          rfl
        · have e : (k == q) = false := beq_eq_false_iff_ne.mpr (fun z => h z.symm)
          rw [if_neg h, e, Bool.false_or, Nat.add_zero]
      · rw [su_add, e1, ih', dp_step hw hk hp]
theorem be_self {U : sU} {q : Nat} : beU U q 8 q = true := beU_eq
theorem su_sub {f : Nat → Nat} : ∀ n, (∀ k, k < n → 1 ≤ f k) → su (fun k => f k - 1) n + n = su f n := by
  intro n
  induction n with
  | zero => intro _; rfl
  | succ n ih =>
    intro h
    have := ih (fun k hk => h k (by omega))
    have := h n (by omega)
    rw [su, su]
    omega
theorem cn_pos {f : Nat → Bool} {k : Nat} (h : f k = true) : ∀ n, k < n → 1 ≤ cn f n := by
  intro n
  induction n with
  | zero => intro h; omega
  | succ n ih =>
    intro hk
    by_cases q : k = n
    · rw [← q, cn_y h]; omega
    · have := ih (by omega)
      by_cases hf : f n = true
      · rw [cn_y hf]; omega
      · rw [cn_n hf]; exact this
/-- followers and causes, counted twice -/
theorem fol_dep {U : sU} (hw : wU U) : su (fun k => cn (beU U k 8) (un U) - 1) (un U) = su (fun k => dpU U 8 k) (un U) := by
  have h1 := su_sub (f := fun k => cn (beU U k 8) (un U)) (un U) (fun k hk => cn_pos be_self _ hk)
  have h2 : su (fun k => cn (beU U k 8) (un U)) (un U) = su (fun k => cn (fun q => beU U q 8 k) (un U)) (un U) := su_swap (fun k j => if beU U k 8 j = true then 1 else 0) (un U) (un U)
  have h3 : su (fun k => cn (fun q => beU U q 8 k) (un U)) (un U) = su (fun k => dpU U 8 k + 1) (un U) := su_cong _ (fun k hk => be_cnt hw (k + 1) k (by omega) hk)
  have h4 := su_add (fun k => dpU U 8 k) (fun _ => 1) (un U)
  have h5 : ∀ n, su (fun _ => 1) n = n := by
    intro n
    induction n with
    | zero => rfl
    | succ n ih => rw [su, ih]
  rw [h5] at h4
  omega
/-! the docket is worth no more than its bails -/
theorem vs_le {V : Nat → Nat} {ch : Nat → Bool} (n : Nat) : vs V ch n ≤ su V n := by
  induction n with
  | zero => exact Nat.le_refl _
  | succ n ih =>
    rw [su]
    by_cases h : ch n = true
    · rw [vs_y h]; omega
    · rw [vs_n h]; omega
theorem gr_bails (U : sU) (f : Nat) : (gr U f (un U)).sum ≤ su (fun k => w_ba (ug U k)) (un U) := by
  have hm : ∀ r s, r ≤ s → s < un U → la U (ow U r) ≤ la U (ow U s) := fun r s h hs => ow_la h hs
  obtain ⟨ch, -, hp⟩ := gg_ex (L := fun r => la U (ow U r)) (V := fun r => ba U (ow U r)) (f := f) hm (un U) (Nat.le_refl _)
  rw [gr_gg, ← hp.sum_nat, vl_sum]
  have h1 := vs_le (V := fun r => ba U (ow U r)) (ch := ch) (un U)
  rw [su_ow U (fun k => ba U k)] at h1
  exact h1
theorem pdl_su : ∀ (l : List sW), pdl l = su (fun k => if w_pd (l.getD k w0) = 1 then w_ba (l.getD k w0) else 0) l.length := by
  intro l
  have key : ∀ (l : List sW) n, n ≤ l.length → pdl (l.take n) = su (fun k => if w_pd (l.getD k w0) = 1 then w_ba (l.getD k w0) else 0) n := by
    intro l n
    induction n with
    | zero => intro _; rfl
    | succ n ih =>
      intro h
      have hn : n < l.length := h
      rw [List.take_succ_eq_append_getElem hn, pdl_app, ih (by omega), su]
      congr 1
      rw [pdl_cons, List.getD_eq_getElem?_getD, List.getElem?_eq_getElem hn]
      rfl
  rw [← key l l.length (Nat.le_refl _), List.take_length]
theorem pdl_un (U : sU) : pdl U.1 = su (fun k => if w_pd (ug U k) = 1 then w_ba (ug U k) else 0) (un U) := pdl_su U.1
