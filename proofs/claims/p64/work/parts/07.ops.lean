/-! THE MACHINE DOES WHAT THE ABSTRACT MACHINE DOES: instructions that touch no heap -/
/-- the locals -/
def qq_Lr (X : qq_X) (al : List (Option Value)) (ls : Array Slot) : Prop := ls.size = al.length ∧ lv_wf ls ∧ ∀ (i : Nat) (v : Value), al[i]? = some (some v) → ls[i]? = some (.val (rv_ X v))
section QOPS
variable {p : Program} {l : Launch} {e : Env} {R : Room} {s : State} {m : MethodId} {args : Array Value} {below : List Frame} {meth : Method} {c : Code} {H : Heap} {locs : List Loc} {cells slots : Nat} {Q : State → Prop}
variable {cc : ByteArray} {pc : Nat} {ls : Array Slot} {rest : List Value} {X : qq_X}
theorem so_cst (hx : p.tables.exec = Jvm.exec) (hb : c.code = cc) {i : Instr} {v : Value} (hs : qq_cst i = some v) (h0 : ro_ X 0 = none) (hd : decode cc pc = .ok (i, qq_len i))
    (k : W p l e R s m args below meth c H locs cells slots Q (F0 m (pc + qq_len i) ls (rv_ X v :: rest))) : W p l e R s m args below meth c H locs cells slots Q (F0 m pc ls rest) := by
  unfold qq_cst at hs
  split at hs
  · cases hs; exact lv_iconst hx hb hd rfl k
  · cases hs; exact lv_bipush hx hb hd rfl k
  · cases hs; exact lv_sipush hx hb hd rfl k
  · cases hs; exact lv_lconst hx hb hd rfl k
  · cases hs
    have e1 : rv_ X (.ref 0) = .null := by simp only [rv_, h0]; rfl
    rw [e1] at k
    exact lv_null hx hb hd k
  · split at hs
    · rename_i h; subst h; cases hs; exact lv_fconst0 hx hb hd k
    · cases hs
  · split at hs
    · rename_i h; subst h; cases hs; exact lv_dconst0 hx hb hd k
    · cases hs
  · cases hs
theorem so_un (hx : p.tables.exec = Jvm.exec) (hb : c.code = cc) {i : Instr} {v x : Value} (hs : qq_un i x = some v) (hd : decode cc pc = .ok (i, qq_len i))
    (k : W p l e R s m args below meth c H locs cells slots Q (F0 m (pc + qq_len i) ls (rv_ X v :: rest))) : W p l e R s m args below meth c H locs cells slots Q (F0 m pc ls (rv_ X x :: rest)) := by
  unfold qq_un at hs
  split at hs
  · cases hs; exact lv_ineg hx hb hd k
  · cases hs; exact lv_i2l hx hb hd rfl k
  · cases hs; exact lv_l2i hx hb hd rfl k
  · cases hs; exact lv_i2b hx hb hd rfl k
  · cases hs; exact lv_i2c hx hb hd rfl k
  · cases hs; exact lv_i2d hx hb hd k
  · cases hs; exact lv_i2f hx hb hd k
  · obtain ⟨h1, rfl⟩ := qq_if_some hs; exact lv_f2d hx hb hd h1 k
  · cases hs
theorem so_bin (hx : p.tables.exec = Jvm.exec) (hb : c.code = cc) {i : Instr} {v x y : Value} (hs : qq_bin i y x = some v) (hd : decode cc pc = .ok (i, qq_len i))
    (k : W p l e R s m args below meth c H locs cells slots Q (F0 m (pc + qq_len i) ls (rv_ X v :: rest))) : W p l e R s m args below meth c H locs cells slots Q (F0 m pc ls (rv_ X y :: rv_ X x :: rest)) := by
  unfold qq_bin at hs
  split at hs
  · cases hs; exact lv_iadd hx hb hd k
  · cases hs; exact lv_isub hx hb hd k
  · cases hs; exact lv_imul hx hb hd k
  · obtain ⟨h1, rfl⟩ := qq_if_some hs; exact lv_idiv hx hb hd h1 k
  · obtain ⟨h1, rfl⟩ := qq_if_some hs; exact lv_irem hx hb hd h1 k
  · cases hs; exact lv_iand hx hb hd k
  · cases hs; exact lv_ior hx hb hd k
  · cases hs; exact lv_ixor hx hb hd k
  · cases hs; exact lv_ishl hx hb hd k
  · cases hs; exact lv_ishr hx hb hd k
  · cases hs; exact lv_iushr hx hb hd rfl k
  · cases hs; exact lv_ladd hx hb hd k
  · cases hs; exact lv_lsub hx hb hd k
  · cases hs; exact lv_land hx hb hd k
  · cases hs; exact lv_lor hx hb hd k
  · cases hs; exact lv_lshl hx hb hd rfl k
  · cases hs; exact lv_lshr hx hb hd rfl k
  · cases hs; exact W.lcmp hx hb hd k
  · obtain ⟨h1, rfl⟩ := qq_if_some hs; exact lv_ddiv hx hb hd h1 k
  · obtain ⟨h1, rfl⟩ := qq_if_some hs; exact lv_fdiv hx hb hd h1 k
  · cases hs; exact lv_dcmp hx hb hd k
  · cases hs; exact lv_fcmp hx hb hd k
  · cases hs
theorem so_shf (hx : p.tables.exec = Jvm.exec) (hb : c.code = cc) {i : Instr} {st st' : List Value} (hs : qq_shf i st = some st') (hd : decode cc pc = .ok (i, qq_len i))
    (k : W p l e R s m args below meth c H locs cells slots Q (F0 m (pc + qq_len i) ls (st'.map (rv_ X)))) : W p l e R s m args below meth c H locs cells slots Q (F0 m pc ls (st.map (rv_ X))) := by
  unfold qq_shf at hs
  split at hs
  · split at hs
    · rename_i h; cases hs; exact lv_pop hx hb hd (by rw [rv_cat]; exact h) k
    · cases hs
  · split at hs
    · rename_i h; cases hs; exact lv_dup hx hb hd (by rw [rv_cat]; exact h) k
    · cases hs
  · split at hs
    · rename_i h; cases hs; exact lv_dup_x1 hx hb hd (by rw [rv_cat]; exact h.1) (by rw [rv_cat]; exact h.2) k
    · cases hs
  · split at hs
    · rename_i h; cases hs; exact lv_dup2_11 hx hb hd (by rw [rv_cat]; exact h.1) (by rw [rv_cat]; exact h.2) k
    · cases hs
  · cases hs
theorem so_ld (hx : p.tables.exec = Jvm.exec) (hb : c.code = cc) {i : Instr} {k0 t : Nat} {v : Value} {al : List (Option Value)} (hs : qq_ldi i = some (k0, t)) (hv : al[k0]? = some (some v)) (ht : qq_tc v = t) (hL : qq_Lr X al ls) (hd : decode cc pc = .ok (i, qq_len i))
    (k : W p l e R s m args below meth c H locs cells slots Q (F0 m (pc + qq_len i) ls (rv_ X v :: rest))) : W p l e R s m args below meth c H locs cells slots Q (F0 m pc ls rest) := by
  have hl := hL.2.2 _ _ hv
  have h4 : ∀ a, v = .ref a → (rv_ X v = .null ∨ ∃ q, rv_ X v = .ref q) := by
    intro a ha; subst ha
    simp only [rv_]
    cases ro_ X a with
    | none => exact Or.inl rfl
    | some q => exact Or.inr ⟨q, rfl⟩
  unfold qq_ldi at hs
  split at hs <;> cases hs <;> cases v <;> cases ht
  · exact lv_iload_n hx hb hd rfl hl k
  · exact lv_iload hx hb hd hl k
  · exact lv_lload_n hx hb hd rfl hl k
  · exact lv_lload hx hb hd hl k
  · exact lv_fload_n hx hb hd rfl hl k
  · exact lv_fload hx hb hd hl k
  · exact lv_dload_n hx hb hd rfl hl k
  · exact lv_dload hx hb hd hl k
  · rcases h4 _ rfl with h | ⟨q, h⟩ <;> rw [h] at hl k
    · exact lv_aload_nN hx hb hd rfl hl k
    · exact lv_aload_n hx hb hd rfl hl k
  · rcases h4 _ rfl with h | ⟨q, h⟩ <;> rw [h] at hl k
    · exact lv_aloadN hx hb hd hl k
    · exact lv_aload hx hb hd hl k
theorem so_c0 (hx : p.tables.exec = Jvm.exec) (hb : c.code = cc) {cn : ClassFile.Cond} {o : Int} {x : Int32} {tgt : Nat} (hd : decode cc pc = .ok (.ifCond cn o, 3)) (ht : (pc : Int) + o = (tgt : Int))
    (k : W p l e R s m args below meth c H locs cells slots Q (F0 m (if qq_c0 cn x then tgt else pc + 3) ls rest)) : W p l e R s m args below meth c H locs cells slots Q (F0 m pc ls (.int x :: rest)) := by
  cases cn <;> simp only [qq_c0, decide_eq_true_eq] at k
  · exact lv_if_eq hx hb hd ht (fun h => by rw [if_pos h] at k; exact k) (fun h => by rw [if_neg h] at k; exact k)
  · exact lv_if_ne hx hb hd ht (fun h => by rw [if_pos h] at k; exact k) (fun h => by rw [if_neg (fun q => q h)] at k; exact k)
  · exact lv_if_lt hx hb hd ht (fun h => by rw [if_pos h] at k; exact k) (fun h => by rw [if_neg h] at k; exact k)
  · exact lv_if_ge hx hb hd ht (fun h => by rw [if_pos h] at k; exact k) (fun h => by rw [if_neg h] at k; exact k)
  · exact lv_if_gt hx hb hd ht (fun h => by rw [if_pos h] at k; exact k) (fun h => by rw [if_neg h] at k; exact k)
  · exact lv_if_le hx hb hd ht (fun h => by rw [if_pos h] at k; exact k) (fun h => by rw [if_neg h] at k; exact k)
theorem so_c2 (hx : p.tables.exec = Jvm.exec) (hb : c.code = cc) {cn : ClassFile.Cond} {o : Int} {x y : Int32} {tgt : Nat} (hd : decode cc pc = .ok (.if_icmp cn o, 3)) (ht : (pc : Int) + o = (tgt : Int))
    (k : W p l e R s m args below meth c H locs cells slots Q (F0 m (if qq_c2 cn x y then tgt else pc + 3) ls rest)) : W p l e R s m args below meth c H locs cells slots Q (F0 m pc ls (.int y :: .int x :: rest)) := by
  cases cn <;> simp only [qq_c2, decide_eq_true_eq] at k
  · exact lv_icmp_eq hx hb hd ht (fun h => by rw [if_pos h] at k; exact k) (fun h => by rw [if_neg h] at k; exact k)
  · exact lv_icmp_ne hx hb hd ht (fun h => by rw [if_pos h] at k; exact k) (fun h => by rw [if_neg (fun q => q h)] at k; exact k)
  · exact lv_icmp_lt hx hb hd ht (fun h => by rw [if_pos h] at k; exact k) (fun h => by rw [if_neg h] at k; exact k)
  · exact lv_icmp_ge hx hb hd ht (fun h => by rw [if_pos h] at k; exact k) (fun h => by rw [if_neg h] at k; exact k)
  · exact lv_icmp_gt hx hb hd ht (fun h => by rw [if_pos h] at k; exact k) (fun h => by rw [if_neg h] at k; exact k)
  · exact lv_icmp_le hx hb hd ht (fun h => by rw [if_pos h] at k; exact k) (fun h => by rw [if_neg h] at k; exact k)
end QOPS
theorem qq_set_len (al : List (Option Value)) (i : Nat) (v : Value) : (qq_set al i v).length = al.length := by
  simp only [qq_set, List.length_set]
  have h1 : (if v.category = 2 then al.set (i + 1) none else al).length = al.length := by split <;> simp
  cases i with
  | zero => exact h1
  | succ h =>
    dsimp only
    split
    · split
      · simp only [List.length_set]; exact h1
      · exact h1
    · exact h1
theorem qq_set_get {al : List (Option Value)} {i j : Nat} {v w : Value} (h : (qq_set al i v)[j]? = some (some w)) :
    (j = i ∧ w = v) ∨ (j ≠ i ∧ al[j]? = some (some w) ∧ (v.category = 2 → j ≠ i + 1) ∧ (j + 1 = i → w.category ≠ 2)) := by
  by_cases hj : j = i
  · subst hj
    left
    refine ⟨rfl, ?_⟩
    have key : ∀ L : List (Option Value), (L.set j (some v))[j]? = some (some w) → w = v := by
      intro L hL
      rw [List.getElem?_set, if_pos rfl] at hL
      split at hL
      · exact (Option.some.inj (Option.some.inj hL)).symm
      · cases hL
    exact key _ h
  · right
    have hl1 : ∀ u, (if v.category = 2 then al.set (i + 1) none else al)[j]? = some (some u) → al[j]? = some (some u) ∧ (v.category = 2 → j ≠ i + 1) := by
      intro u hu
      split at hu
      · rw [List.getElem?_set] at hu
        split at hu
        · split at hu <;> cases hu
        · rename_i q; exact ⟨hu, fun _ e => q e.symm⟩
      · rename_i q; exact ⟨hu, fun e => absurd e q⟩
    simp only [qq_set] at h
    rw [List.getElem?_set, if_neg (fun q => hj q.symm)] at h
    cases i with
    | zero =>
      obtain ⟨a1, a2⟩ := hl1 w h
      exact ⟨hj, a1, a2, fun e => by omega⟩
    | succ i =>
      dsimp only at h
      by_cases hji : j = i
      · subst hji
        split at h
        · rename_i u hu
          split at h
          · rw [List.getElem?_set, if_pos rfl] at h
            split at h <;> exact absurd h (by simp)
          · rename_i hc
            have hwu : u = w := by rw [hu] at h; cases h; rfl
            obtain ⟨a1, a2⟩ := hl1 w h
            exact ⟨hj, a1, a2, fun _ => by rw [← hwu]; exact hc⟩
        · rename_i hno
          exact absurd h (hno w)
      · have h2 : (if v.category = 2 then al.set (i + 1 + 1) none else al)[j]? = some (some w) := by
          split at h
          · split at h
            · rw [List.getElem?_set, if_neg (fun q => hji q.symm)] at h; exact h
            · exact h
          · exact h
        obtain ⟨a1, a2⟩ := hl1 w h2
        exact ⟨hj, a1, a2, fun e => absurd (by omega) hji⟩
/-- the known locals as the kit lists them -/
def qq_lv (X : qq_X) (al : List (Option Value)) : List (Nat × Value) := (List.range al.length).filterMap (fun j => match al[j]? with | some (some v) => some (j, rv_ X v) | _ => none)
theorem qq_lv_mem {X : qq_X} {al : List (Option Value)} {j : Nat} {v : Value} (h : al[j]? = some (some v)) : (j, rv_ X v) ∈ qq_lv X al := by
  refine List.mem_filterMap.mpr ⟨j, List.mem_range.mpr (List.getElem?_eq_some_iff.mp h).1, ?_⟩
  rw [h]
theorem Lr_has {X : qq_X} {al : List (Option Value)} {ls : Array Slot} (h : qq_Lr X al ls) : lv_has ls al.length (qq_lv X al) := by
  refine ⟨h.1, h.2.1, fun q hq => ?_⟩
  obtain ⟨j, -, hj⟩ := List.mem_filterMap.mp hq
  split at hj
  · rename_i v hv; cases hj; exact h.2.2 j v hv
  · cases hj
theorem Lr_set1 {X : qq_X} {al : List (Option Value)} {ls : Array Slot} {i nL : Nat} {v : Value} (hn : nL = al.length) (hc : v.category = 1)
    (h : lv_has ls nL ((i, rv_ X v) :: (qq_lv X al).filter (fun q => !(q.1 == i) && !(q.1 + 1 == i && q.2.category == 2)))) : qq_Lr X (qq_set al i v) ls := by
  refine ⟨by rw [qq_set_len, h.1, hn], h.2.1, fun j w hw => ?_⟩
  rcases qq_set_get hw with ⟨rfl, rfl⟩ | ⟨h1, h2, -, h4⟩
  · exact h.2.2 (j, rv_ X w) List.mem_cons_self
  · refine h.2.2 (j, rv_ X w) (List.mem_cons_of_mem _ (List.mem_filter.mpr ⟨qq_lv_mem h2, ?_⟩))
    simp only [Bool.and_eq_true, Bool.not_eq_true', beq_eq_false_iff_ne, Bool.and_eq_false_iff, rv_cat]
    refine ⟨h1, ?_⟩
    by_cases hji : j + 1 = i
    · exact Or.inr (h4 hji)
    · exact Or.inl hji
theorem Lr_set2 {X : qq_X} {al : List (Option Value)} {ls : Array Slot} {i nL : Nat} {v : Value} (hn : nL = al.length) (hc : v.category = 2)
    (h : lv_has ls nL ((i, rv_ X v) :: (qq_lv X al).filter (fun q => !(q.1 == i) && (!(q.1 == i + 1) && !(q.1 + 1 == i && q.2.category == 2))))) : qq_Lr X (qq_set al i v) ls := by
  refine ⟨by rw [qq_set_len, h.1, hn], h.2.1, fun j w hw => ?_⟩
  rcases qq_set_get hw with ⟨rfl, rfl⟩ | ⟨h1, h2, h3, h4⟩
  · exact h.2.2 (j, rv_ X w) List.mem_cons_self
  · refine h.2.2 (j, rv_ X w) (List.mem_cons_of_mem _ (List.mem_filter.mpr ⟨qq_lv_mem h2, ?_⟩))
    simp only [Bool.and_eq_true, Bool.not_eq_true', beq_eq_false_iff_ne, Bool.and_eq_false_iff, rv_cat]
    refine ⟨h1, h3 hc, ?_⟩
    by_cases hji : j + 1 = i
    · exact Or.inr (h4 hji)
    · exact Or.inl hji
section QST
variable {p : Program} {l : Launch} {e : Env} {R : Room} {s : State} {m : MethodId} {args : Array Value} {below : List Frame} {meth : Method} {c : Code} {H : Heap} {locs : List Loc} {cells slots : Nat} {Q : State → Prop}
variable {cc : ByteArray} {pc : Nat} {ls : Array Slot} {rest : List Value} {X : qq_X}
theorem so_st (hx : p.tables.exec = Jvm.exec) (hb : c.code = cc) {i : Instr} {k0 t : Nat} {v : Value} {al : List (Option Value)} (hs : qq_sti i = some (k0, t)) (ht : qq_tc v = t) (hk : k0 + v.category ≤ al.length) (hL : qq_Lr X al ls) (hd : decode cc pc = .ok (i, qq_len i))
    (k : ∀ ls' : Array Slot, qq_Lr X (qq_set al k0 v) ls' → W p l e R s m args below meth c H locs cells slots Q (F0 m (pc + qq_len i) ls' rest)) : W p l e R s m args below meth c H locs cells slots Q (F0 m pc ls (rv_ X v :: rest)) := by
  have hh := Lr_has hL
  have h4 : ∀ a, v = .ref a → (rv_ X v = .null ∨ ∃ q, rv_ X v = .ref q) := by
    intro a ha; subst ha
    simp only [rv_]
    cases ro_ X a with
    | none => exact Or.inl rfl
    | some q => exact Or.inr ⟨q, rfl⟩
  unfold qq_sti at hs
  split at hs <;> cases hs <;> cases v <;> cases ht <;> (try (have hk1 := hk; simp only [Value.category] at hk1))
  · exact lv_istore_n hx hb hd rfl hh (by omega) rfl (fun ls' h => k ls' (Lr_set1 rfl rfl h))
  · exact lv_istore hx hb hd hh (by omega) rfl (fun ls' h => k ls' (Lr_set1 rfl rfl h))
  · exact lv_lstore_n hx hb hd rfl hh (by omega) rfl (fun ls' h => k ls' (Lr_set2 rfl rfl h))
  · exact lv_lstore hx hb hd hh (by omega) rfl (fun ls' h => k ls' (Lr_set2 rfl rfl h))
  · exact lv_fstore_n hx hb hd rfl hh (by omega) rfl (fun ls' h => k ls' (Lr_set1 rfl rfl h))
  · exact lv_fstore hx hb hd hh (by omega) rfl (fun ls' h => k ls' (Lr_set1 rfl rfl h))
  · exact lv_dstore_n hx hb hd rfl hh (by omega) rfl (fun ls' h => k ls' (Lr_set2 rfl rfl h))
  · exact lv_dstore hx hb hd hh (by omega) rfl (fun ls' h => k ls' (Lr_set2 rfl rfl h))
  · rcases h4 _ rfl with h | ⟨q, h⟩ <;> rw [h]
    · exact lv_astore_nN hx hb hd rfl hh (by omega) rfl (fun ls' h' => k ls' (Lr_set1 rfl rfl (by rw [h]; exact h')))
    · exact lv_astore_n hx hb hd rfl hh (by omega) rfl (fun ls' h' => k ls' (Lr_set1 rfl rfl (by rw [h]; exact h')))
  · rcases h4 _ rfl with h | ⟨q, h⟩ <;> rw [h]
    · exact lv_astoreN hx hb hd hh (by omega) rfl (fun ls' h' => k ls' (Lr_set1 rfl rfl (by rw [h]; exact h')))
    · exact lv_astore hx hb hd hh (by omega) rfl (fun ls' h' => k ls' (Lr_set1 rfl rfl (by rw [h]; exact h')))
theorem so_iinc (hx : p.tables.exec = Jvm.exec) (hb : c.code = cc) {i : Nat} {n : Int} {x : Int32} {al : List (Option Value)} (hv : al[i]? = some (some (.int x))) (hL : qq_Lr X al ls) (hd : decode cc pc = .ok (.iinc i n, 3))
    (k : ∀ ls' : Array Slot, qq_Lr X (qq_set al i (.int (x + Int32.ofInt n))) ls' → W p l e R s m args below meth c H locs cells slots Q (F0 m (pc + 3) ls' rest)) : W p l e R s m args below meth c H locs cells slots Q (F0 m pc ls rest) := by
  have hh := Lr_has hL
  obtain ⟨q, hq⟩ := List.getElem?_of_mem (qq_lv_mem (X := X) hv)
  exact lv_iinc hx hb hd hh hq rfl (List.getElem?_eq_some_iff.mp hv).1 rfl (fun ls' h => k ls' (Lr_set1 (v := .int (x + Int32.ofInt n)) rfl rfl h))
end QST
