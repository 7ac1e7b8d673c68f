/-! SUMS OVER THE DOCKET -/
theorem su_list {F : Nat → Nat} : ∀ n, su F n = ((List.range n).map F).sum := by
  intro n
  induction n with
  | zero => rfl
  | succ n ih => rw [List.range_succ, List.map_append, List.sum_append, ← ih, su]; simp
theorem ow_list (U : sU) : (List.range (un U)).map (ow U) = od U (un U) := by
  have hl := od_len U (un U)
  refine List.ext_getElem (by rw [List.length_map, List.length_range, hl]) (fun i h1 h2 => ?_)
  rw [List.getElem_map, List.getElem_range]
  unfold ow
  rw [getD_lt h2]
theorem su_ow (U : sU) (F : Nat → Nat) : su (fun r => F (ow U r)) (un U) = su F (un U) := by
  rw [su_list, su_list]
  have e : (List.range (un U)).map (fun r => F (ow U r)) = ((List.range (un U)).map (ow U)).map F := by rw [List.map_map]; rfl
  rw [e, ow_list]
  exact ((od_ok U (un U)).1.map F).sum_nat
theorem cn_ow (U : sU) (F : Nat → Bool) : cn (fun r => F (ow U r)) (un U) = cn F (un U) := su_ow U (fun k => if F k = true then 1 else 0)
