/-! THE MODEL: who is heavier, who is at a rank -/
def hvB (we : Nat → Nat) (a b : Nat) : Bool := decide (we b < we a) || (decide (we a = we b) && decide (a < b))
theorem cn_countP {f : Nat → Bool} : ∀ n, cn f n = (List.range n).countP f := by
  intro n
  induction n with
  | zero => rfl
  | succ n ih =>
    rw [List.range_succ, List.countP_append, ← ih, List.countP_singleton]
    rfl
theorem hvB_irr {we : Nat → Nat} {a : Nat} : hvB we a a = false := by unfold hvB; simp
theorem hvB_asym {we : Nat → Nat} {a b : Nat} (h : hvB we a b = true) : hvB we b a = false := by
  unfold hvB at *
  rw [Bool.or_eq_true, Bool.and_eq_true, decide_eq_true_eq, decide_eq_true_eq, decide_eq_true_eq] at h
  rw [Bool.or_eq_false_iff, Bool.and_eq_false_iff, decide_eq_false_iff_not, decide_eq_false_iff_not, decide_eq_false_iff_not]
  omega
theorem countP_rank {we : Nat → Nat} {l : List Nat} (h : l.Pairwise (fun a b => hvB we a b = true)) {r : Nat} (hr : r < l.length) : l.countP (fun k => hvB we k l[r]) = r := by
  have hs : l = l.take r ++ l[r] :: l.drop (r + 1) := by
    conv => lhs; rw [← List.take_append_drop r l, List.drop_eq_getElem_cons hr]
  have hp := List.pairwise_iff_getElem.mp h
  have e1 : (l.take r).countP (fun k => hvB we k l[r]) = r := by
    have hl : (l.take r).length = r := by rw [List.length_take]; omega
    conv => rhs; rw [← hl]
    refine List.countP_eq_length.mpr (fun a ha => ?_)
    obtain ⟨i, hi, rfl⟩ := List.getElem_of_mem ha
    rw [List.getElem_take]
    rw [List.length_take] at hi
    exact hp i r (by omega) hr (by omega)
  have e2 : (l.drop (r + 1)).countP (fun k => hvB we k l[r]) = 0 := by
    refine List.countP_eq_zero.mpr (fun a ha => ?_)
    obtain ⟨i, hi, rfl⟩ := List.getElem_of_mem ha
    rw [List.getElem_drop]
    rw [List.length_drop] at hi
    rw [hvB_asym (hp r (r + 1 + i) hr (by omega) (by omega))]
    exact Bool.false_ne_true
  have e3 : l.countP (fun k => hvB we k l[r]) = (l.take r ++ l[r] :: l.drop (r + 1)).countP (fun k => hvB we k l[r]) := congrArg (fun x => List.countP (fun k => hvB we k l[r]) x) hs
  rw [e3, List.countP_append, List.countP_cons, e1, e2, hvB_irr]
  rfl
