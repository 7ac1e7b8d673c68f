/-! THROWS (as the kit's vx_throw0, the heap's size told), SWITCHES, HANDLERS -/
section Ends
variable {p : Program} {l : Launch} {e : Env} {R : Room} {s : State} {m : MethodId} {args : Array Value} {below : List Frame} {meth : Method} {c : Code} {H : Heap} {locs : List Loc} {cells slots : Nat} {Q : State → Prop}
variable {mc ms : Nat} {free : Addr → Prop} {A0 A1 : Nat → Prop} {H0 : Heap} {a : Array Value} {ls : Array Slot} {st0 rest : List Value}
variable {Qc : Array Value → State → Outcome → State → Prop} {XC : String → State → State → Prop}
/-- 'throw new E()': new; dup; invokespecial; athrow -/
theorem qx_throw0 {cc : ByteArray} {pc : Nat} (hexec : p.tables.exec = Jvm.exec) (hb : c.code = cc) (hl : l.stackTraces = false) {own cls : String} {names : List String} {ik ic mc ms : Nat} {A : Nat → Prop}
    (hown : s.vm.findClass own = some m.cls) (hcls : Bundle.fit cls = true) (hnames : ∀ n ∈ names, Bundle.fit n = true)
    (hk : (Cond.classLink own ik cls).before args s = true) (hini : (Cond.initialized cls).before args s = true) (hat : ∀ w ∈ vx_at0 own ic cls names, w.before args s = true)
    (hgood : ∀ w ∈ Cond.classLink own ik cls :: Cond.initialized cls :: vx_at0 own ic cls names, vx_ot w = true)
    (hU : vx_Zq Bundle.tN "UNASSIGNED_STACK" Bundle.steD A s s.heap) (hN : vx_Zq Bundle.tN "SUPPRESSED_SENTINEL" Bundle.listD A s s.heap) (hS : va_S A s.heap H locs) (hsize : ls.size = c.maxLocals)
    (d0 : decode cc pc = .ok (.new ik, 3)) (d3 : decode cc (pc + 3) = .ok (.dup, 1)) (d4 : decode cc (pc + 4) = .ok (.invokespecial ic, 3)) (d7 : decode cc (pc + 7) = .ok (.athrow, 1))
    (hout : ∀ x ∈ c.exceptionTable.toList, covers x (pc + 7) = false)
    (hRframes : names.length + 3 < R.frames) (hRlocals : (rest.map fun v => v.category).sum + (13 * (names.length + 1) + 42) ≤ R.locals) (hRcells : cells + 1 ≤ R.cells) (hRslots : slots + 6 ≤ R.slots) (hlocks : meth.locks = false)
    (hx : ∀ t : State, s.vm.Alike t.vm → t.heap.size = H.size + 1 → (∀ q : Nat, q < H.size → t.heap[q]? = H[q]?) → XC cls s t)
    (hf : ∀ z ∈ locs, free z.base) (hc : cells + 1 ≤ mc) (hs : slots + 6 ≤ ms) :
    W p l e R s m args below meth c H locs cells slots (vx_MQ below Qc XC args s mc ms free) (F0 m pc ls rest) := by
  intro T hT X
  have htr : e.platform.stackTraces = false := (show e.platform.stackTraces = l.stackTraces by rw [X.admits.platform]).trans hl
  have Y := vx_rebase X (R' := { frames := R.frames, locals := R.locals, cells := 1, slots := 6 }) (Nat.le_refl _) (Nat.le_refl _) hRcells hRslots
  obtain ⟨s', hA⟩ : ∃ z, z = (T.setVm s.vm).setFrames (.invoking m args :: below) := ⟨_, rfl⟩
  rw [← hA] at Y
  have hvm : s'.vm = s.vm := by rw [hA]; rfl
  have hhp : s'.heap = H := by rw [hA]; exact hT
  have hW0 : s.WarmedH s'.vm := by rw [hvm]; exact State.WarmedH.refl s
  have hat' : ∀ w ∈ vx_at0 own ic cls names, w.before args s' = true := fun w hw => vx_ot_at hW0 hvm.symm (hgood w (List.mem_cons_of_mem _ (List.mem_cons_of_mem _ hw))) (hat w hw)
  have hk' : (Cond.classLink own ik cls).before args s' = true := vx_ot_at hW0 hvm.symm (hgood _ List.mem_cons_self) hk
  have hini' : (Cond.initialized cls).before args s' = true := vx_ot_at hW0 hvm.symm (hgood _ (List.mem_cons_of_mem _ List.mem_cons_self)) hini
  have hU' : vx_Zq Bundle.tN "UNASSIGNED_STACK" Bundle.steD A s' s'.heap := by rw [hhp]; exact vx_Zq.moved hW0.alike (hU.kept hS.2.1)
  have hN' : vx_Zq Bundle.tN "SUPPRESSED_SENTINEL" Bundle.listD A s' s'.heap := by rw [hhp]; exact vx_Zq.moved hW0.alike (hN.kept hS.2.1)
  have h : ∀ w ∈ Bundle.ownAtoms0 own ic cls names, w.before args s' = true := vx_own hat' (vx_isRefq hU'.1) (vx_isRefq hN'.1) hU'.2.word hN'.2.word
  have hown' : s'.vm.findClass own = some m.cls := by rw [hvm]; exact hown
  have hins : (Cond.instantiable cls 6).before args s' = true := h _ (by simp [Bundle.ownAtoms0])
  obtain ⟨vm₁, cX, kX, hfX, hkX, -, -, X₁, st1⟩ := Y.newCold hexec (own := own) (C := cls) (index := ik) (n := 6) hown' hk' hins hini'
    (g := F0 m pc ls rest) rfl (by rw [hb]; exact d0) (Nat.le_refl _) (Nat.le_refl _)
  generalize hT1 : (T.setVm vm₁).pushCell { cls := cX, slots := kX.instanceTypes.map defaultValue, vm := .none } = T1 at X₁ st1
  have hcat : (Value.ref T.heap.size).category = 1 := rfl
  have hcellA : T1.heap[T.heap.size]? = some (freshCell cX kX) := by rw [← hT1]; exact State.heap_pushCell_size _ _
  have d3' : decode c.code (pc + 3) = .ok (.dup, 1) := by rw [hb]; exact d3
  obtain ⟨U, hsteps, hrun, hend, hW, hsame, ce, hce, hO⟩ := X₁.ctorThrow0 hexec htr (own := own) (cls := cls) (names := names) (ic := ic) hown' hcls hnames h (fun x hx => nomatch hx) hfX hkX hcellA (by rw [hhp, hT]; exact Nat.le_refl _)
    (g := { method := m, pc := pc + 4, locals := ls, stack := .ref T.heap.size :: .ref T.heap.size :: rest, locked := none }) rfl hsize rfl rfl (rest := rest) rfl
    (by rw [hb]; exact d4) (by rw [hb]; exact d7) hout hRframes (by simp only [List.map_cons, List.sum_cons, hcat]; omega) hlocks
  obtain ⟨f1, f2⟩ := vx_frame hsame
  rw [hhp] at f1 f2
  have hWs : s.WarmedH U.vm := State.WarmedH.trans hW0 hW
  have hcl : s.vm.findClass cls = some ce.cls := by
    have h9 := hO.cls
    rw [hvm] at h9
    exact h9
  have hall : s.sameButNew ({ U with vm := s.vm } : State) locs mc ms := by
    subst hA
    obtain ⟨e1, e2⟩ := hsame
    rw [State.setFrames_setFrames] at e1
    have h2 : (T.setVm s.vm).sameButNew ({ U with vm := s.vm } : State) [] (0 + 1) (0 + 6) := ⟨e1, e2⟩
    have h3 := X.same.trans h2
    rw [List.append_nil] at h3
    exact h3.mono hc hs
  have hsz9 : U.heap.size = H.size + 1 := by
    have g1 : T.heap.size < U.heap.size := (Array.getElem?_eq_some_iff.mp hce).1
    have g2 : U.heap.size ≤ s'.heap.size + 1 := by
      have := hsame.2.2.1
      omega
    rw [hT] at g1
    rw [hhp] at g2
    omega
  refine ⟨U, ?_, .threw T.heap.size, hrun, hend, Or.inr ⟨T.heap.size, rfl, cls, ce, locs, hx U hWs.alike hsz9 (fun q hq => f2 q hq (fun z hz => nomatch hz)), hce, hO.vm, hcl, hWs, hall, hf⟩⟩
  refine st1 _ ?_
  show Steps p.tables e below (T1.setTop { method := m, pc := pc + 3, locals := ls, stack := .ref T.heap.size :: rest, locked := none }) _
  jvm_step X₁.here [X₁.here.top, hexec, d3', Value.category]
  exact hsteps
end Ends
def qq_bo : Instr → Int
  | .ifCond _ o => o
  | .if_icmp _ o => o
  | .goto o => o
  | .ifnull o => o
  | .ifnonnull o => o
  | _ => 0
section QLF
variable {p : Program} {l : Launch} {e : Env} {R : Room} {s : State} {m : MethodId} {args : Array Value} {below : List Frame} {meth : Method} {c : Code} {H : Heap} {locs : List Loc} {cells slots : Nat} {Q : State → Prop}
variable {cc : ByteArray} {pc : Nat} {ls : Array Slot} {rest : List Value} {X : qq_X} {σ : qq_S}
/-- a branch -/
theorem so_br (hx : p.tables.exec = Jvm.exec) (hb : c.code = cc) (h0 : ro_ X 0 = none) (hn0 : ∀ a : Nat, a ≠ 0 → a ≠ 2 → ∃ q, ro_ X a = some q) {i : Instr} {o : Int} {st st' : List Value} {b : Bool} {tgt : Nat} (hs : qq_br i st = some (b, st')) (ho : qq_bo i = o)
    (hd : decode cc pc = .ok (i, 3)) (ht : (pc : Int) + o = (tgt : Int))
    (k : W p l e R s m args below meth c H locs cells slots Q (F0 m (if b then tgt else pc + 3) ls (st'.map (rv_ X)))) : W p l e R s m args below meth c H locs cells slots Q (F0 m pc ls (st.map (rv_ X))) := by
  have href : ∀ a : Nat, a ≠ 2 → (a = 0 ∧ rv_ X (.ref a) = .null) ∨ (a ≠ 0 ∧ ∃ q, rv_ X (.ref a) = .ref q) := by
    intro a ha
    by_cases h : a = 0
    · left; subst h; exact ⟨rfl, by simp only [rv_, h0]; rfl⟩
    · right
      obtain ⟨q, hq⟩ := hn0 a h ha
      exact ⟨h, q, by simp only [rv_, hq]; rfl⟩
  unfold qq_br at hs
  split at hs
  · cases hs; subst ho; simp only [qq_bo] at ht; exact so_c0 hx hb hd ht k
  · cases hs; subst ho; simp only [qq_bo] at ht; exact so_c2 hx hb hd ht k
  · cases hs; subst ho; simp only [qq_bo] at ht; exact lv_goto hx hb hd ht k
  · split at hs
    · cases hs
    · rename_i ha
      cases hs; subst ho; simp only [qq_bo] at ht
      rw [List.map_cons]
      rcases href _ ha with ⟨h1, h2⟩ | ⟨h1, q, h2⟩ <;> rw [h2]
      · rw [decide_eq_true h1] at k; exact lv_ifnullN hx hb hd ht k
      · rw [decide_eq_false h1] at k; exact lv_ifnull hx hb hd k
  · split at hs
    · cases hs
    · rename_i ha
      cases hs; subst ho; simp only [qq_bo] at ht
      rw [List.map_cons]
      rcases href _ ha with ⟨h1, h2⟩ | ⟨h1, q, h2⟩ <;> rw [h2]
      · rw [decide_eq_false (fun z => z h1)] at k; exact lv_ifnonnullN hx hb hd k
      · rw [decide_eq_true h1] at k; exact lv_ifnonnull hx hb hd ht k
  · cases hs
/-- the offsets of a switch, the default first -/
def qq_so (i : Instr) : List Int := match i with
  | .tableswitch d _ _ os => d :: os.toList
  | .lookupswitch d ps => d :: ps.toList.map (·.2)
  | _ => []
def qq_sg (i : Instr) : Bool := match i with
  | .tableswitch _ lo hi os => decide (lo ≤ hi) && decide (os.size = (hi - lo).toNat + 1)
  | .lookupswitch _ ps => (ps.toList.zip (ps.toList.drop 1)).all (fun (a, next) => a.1 < next.1)
  | _ => false
theorem lk_off : ∀ (ps : List (Int × Int)) (d x : Int) (k : Nat), (match ps.findIdx? (fun p => p.1 == x) with | some i => i + 1 | none => 0) = k → (d :: ps.map (·.2))[k]? = some (Op.lookupswitch.offset ps d x) := by
  intro ps
  induction ps with
  | nil => intro d x k hk; subst hk; rfl
  | cons q ps ih =>
    intro d x k hk
    obtain ⟨a, o⟩ := q
    rw [Op.lookupswitch.offset_cons]
    rw [List.findIdx?_cons] at hk
    by_cases ha : a = x
    · rw [if_pos ha]
      rw [if_pos (by simpa using ha)] at hk
      subst hk; rfl
    · rw [if_neg ha]
      rw [if_neg (by simpa using ha)] at hk
      cases hf : ps.findIdx? (fun p => p.1 == x) with
      | none =>
        rw [hf] at hk
        subst hk
        exact ih d x 0 (by rw [hf])
      | some i =>
        rw [hf] at hk
        subst hk
        have h1 := ih d x (i + 1) (by rw [hf])
        rw [List.getElem?_cons_succ] at h1
        exact h1
theorem so_sw (hx : p.tables.exec = Jvm.exec) (hb : c.code = cc) {i : Instr} {n : Nat} {x : Int32} {k0 : Nat} {off : Int} {tgt : Nat} (hs : qq_sw i x = some k0) (hg : qq_sg i = true) (ho : (qq_so i)[k0]? = some off)
    (hd : decode cc pc = .ok (i, n)) (ht : (pc : Int) + off = (tgt : Int))
    (k : W p l e R s m args below meth c H locs cells slots Q (F0 m tgt ls rest)) : W p l e R s m args below meth c H locs cells slots Q (F0 m pc ls (.int x :: rest)) := by
  unfold qq_sw at hs
  split at hs
  · rename_i d lo hi os
    cases hs
    simp only [qq_sg, Bool.and_eq_true, decide_eq_true_eq] at hg
    by_cases h : x.toInt < lo ∨ hi < x.toInt
    · rw [if_pos h] at ho
      cases ho
      exact lv_tableOut hx hb hd h ht k
    · rw [if_neg h] at ho
      refine lv_tableIn hx hb hd (fun q => h (Or.inl q)) (fun q => h (Or.inr q)) (off := off) ?_ ht k
      simp only [qq_so, List.getElem?_cons_succ] at ho
      rw [← Array.getElem?_toList]
      exact ho
  · rename_i d ps
    have hk := Option.some.inj hs
    have h1 := lk_off ps.toList d x.toInt k0 hk
    simp only [qq_so] at ho
    rw [h1] at ho
    exact lv_lookup hx hb hd hg (Option.some.inj ho) ht k
  · cases hs
/-- an exception put away: the local is unknown then -/
theorem so_away (hx : p.tables.exec = Jvm.exec) (hb : c.code = cc) {i : Instr} {k0 : Nat} {q : Addr} {al : List (Option Value)} (hs : qq_sti i = some (k0, 4)) (hk : k0 < al.length) (hL : qq_Lr X al ls) (hd : decode cc pc = .ok (i, qq_len i))
    (k : ∀ ls' : Array Slot, qq_Lr X ((qq_set al k0 (.ref 0)).set k0 none) ls' → W p l e R s m args below meth c H locs cells slots Q (F0 m (pc + qq_len i) ls' rest)) : W p l e R s m args below meth c H locs cells slots Q (F0 m pc ls (.ref q :: rest)) := by
  have hh := Lr_has hL
  have key : ∀ ls' : Array Slot, lv_has ls' al.length ((k0, Value.ref q) :: (qq_lv X al).filter (fun q => !(q.1 == k0) && !(q.1 + 1 == k0 && q.2.category == 2))) → qq_Lr X ((qq_set al k0 (.ref 0)).set k0 none) ls' := by
    intro ls' h
    refine ⟨by rw [List.length_set, qq_set_len, h.1], h.2.1, fun j w hw => ?_⟩
    rw [List.getElem?_set] at hw
    split at hw
    · split at hw <;> cases hw
    · rename_i hjk
      rcases qq_set_get hw with ⟨rfl, rfl⟩ | ⟨h1, h2, -, h4⟩
      · exact absurd rfl hjk
      · refine h.2.2 (j, rv_ X w) (List.mem_cons_of_mem _ (List.mem_filter.mpr ⟨qq_lv_mem h2, ?_⟩))
        simp only [Bool.and_eq_true, Bool.not_eq_true', beq_eq_false_iff_ne, Bool.and_eq_false_iff, rv_cat]
        refine ⟨h1, ?_⟩
        by_cases hji : j + 1 = k0
        · exact Or.inr (h4 hji)
        · exact Or.inl hji
  unfold qq_sti at hs
  split at hs <;> cases hs
  · exact lv_astore_n hx hb hd rfl hh hk rfl (fun ls' h => k ls' (key ls' h))
  · exact lv_astore hx hb hd hh hk rfl (fun ls' h => k ls' (key ls' h))
end QLF
