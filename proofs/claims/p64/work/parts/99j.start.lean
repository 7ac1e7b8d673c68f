/-! THE START: words, classes, arrays -/
section SB
variable {b L : Nat} {xs : Nat → Int32} {s : State}
theorem sel_priv {y z : MethodName} {R : String} {args : Array Value} (hcls : y.cls = z.cls) (hy : y.cls ≠ "java/lang/invoke/MethodHandle" ∧ y.cls ≠ "java/lang/invoke/VarHandle") (hz : (Cond.selects R z z).before args s = true) (hpriv : (Cond.privateMethod y).before args s = true) (hinst : (Cond.instanceMethod y).before args s = true) : (Cond.selects R y y).before args s = true := by
  obtain ⟨mk, methM, hnamed, hmethM, -, -⟩ := Cond.instanceMethod_spec hinst
  have hfound : s.methodFound? y.cls y.name y.desc = some mk := State.methodFound?_of_named hnamed hy
  simp only [Cond.before, Cond.holds, Cond.value] at hz
  cases hc : s.vm.findClass R with
  | none => simp [hc] at hz
  | some c =>
    cases hf : s.methodFound? z.cls z.name z.desc with
    | none => simp [hc, hf] at hz
    | some r =>
      cases hm : s.methodNamed? z with
      | none => simp [hc, hf, hm] at hz
      | some m =>
        have e1 := findClass_of_methodNamed hm
        have e2 := findClass_of_methodNamed hnamed
        rw [hcls, e1] at e2
        have e3 : m.cls = mk.cls := Option.some.inj e2
        have hsel : selectMethod {} s.vm c mk = .method mk := selectMethod_private hmethM (Cond.privateMethod_at hpriv mk methM hnamed hmethM)
        simp only [hc, hf, hm] at hz
        have hi : (s.vm.classes[m.cls]?).any (fun k => !k.isInterface) = true := by
          cases hs : selectMethod {} s.vm c r <;> simp only [hs, beq_iff_eq, Option.some.injEq, Bool.and_eq_true, reduceCtorEq, Bool.false_eq_true] at hz
          exact hz.2
        rw [e3] at hi
        simp only [Cond.before, Cond.holds, Cond.value, hc, hfound, hnamed, hsel, hi]
        simp
theorem st_words (hts : ∀ w ∈ lw_tbl, w.before #[Value.ref b] s = true) {i : Nat} {w : Jvm.Cond} (h : qq_tbl[i]? = some w) : w.before #[Value.ref b] s = true := by
  have hm : w ∈ qq_extra ++ lw_tbl := List.mem_of_getElem? h
  rcases List.mem_append.mp hm with h1 | h1
  · unfold qq_extra at h1
    simp only [List.mem_cons, List.not_mem_nil, or_false] at h1
    rcases h1 with rfl | rfl | rfl | rfl
    all_goals exact sel_priv (z := ⟨"java/lang/AbstractStringBuilder", "isLatin1", "()Z"⟩) rfl ⟨by decide, by decide⟩ (hts _ (by decide +kernel)) (hts _ (by decide +kernel)) (hts _ (by decide +kernel))
  · exact hts w h1
theorem sb_1 (hts : ∀ w ∈ lw_tbl, w.before #[Value.ref b] s = true) (i : Nat) (w : Jvm.Cond) (h : qq_tbl[i]? = some w) (hg : goodWord w = true) (a' : Array Value) : w.before a' s = true := word_at (State.WarmedH.refl s) (good_of_word hg) (st_words hts h)
theorem sb_2 (hts : ∀ w ∈ lw_tbl, w.before #[Value.ref b] s = true) (i : Nat) (w : Jvm.Cond) (h : qq_tbl[i]? = some w) (hg : nestW w = true) : va_Nw w s := by
  have h0 := st_words hts h
  cases w <;> first | exact va_Nw.of rfl h0 | (rename_i t; cases t <;> first | exact h0 | cases hg) | cases hg
def q1 (s : State) (c : Nat) : ClassId := match qq_cl[c]? with
  | some q => (s.vm.findClass q.1).getD 0
  | none => 0
def q2 (s : State) (c k : Nat) : Nat := match qq_cl[c]? with
  | some q => (match s.fieldFound? (q.2.1 k).1 (q.2.1 k).2.1 (q.2.1 k).2.2.1 with
    | some x => x.2.2.2.slot
    | none => 0)
  | none => 0
def q3 (s : State) (t : Nat) : ClassId := (s.vm.findClass ("[" ++ (qq_et t).toString)).getD 0
/-- a class of the table is there -/
def clT (s : State) (q : vw_C) : Prop := (∃ cC, s.vm.findClass q.1 = some cC) ∧ ∀ k, k < q.2.2 → ∃ cf kf fi fd, s.fieldFound? (q.2.1 k).1 (q.2.1 k).2.1 (q.2.1 k).2.2.1 = some (cf, kf, fi, fd) ∧ fd.isStatic = false
theorem clT_of {args : Array Value} (hts : ∀ w ∈ lw_tbl, w.before args s = true) {C : String} {T : u_T} {N : Nat} (hin : ((u_ws C T N).all (fun w => decide (w ∈ lw_tbl))) = true) (hN : 0 < N) : clT s (C, T, N) := by
  have hin2 : ∀ w ∈ u_ws C T N, w ∈ lw_tbl := fun w hw => of_decide_eq_true (List.all_eq_true.mp hin w hw)
  refine ⟨?_, fun k hk => ?_⟩
  · rcases u_lays hts hin2 hN with h | h
    · obtain ⟨c, k, cf', kf', fi', fd', r1, -⟩ := Cond.lays_spec h
      exact ⟨c, r1⟩
    · obtain ⟨c, k, cf', kf', fi', fd', r1, -⟩ := Cond.laysFinal_spec h
      exact ⟨c, r1⟩
  · rcases u_lays hts hin2 hk with h | h
    · obtain ⟨c, k, cf', kf', fi', fd', r1, r2, hi', hst, -⟩ := Cond.lays_spec h
      exact ⟨cf', kf', fi', fd', hi', hst⟩
    · obtain ⟨c, k, cf', kf', fi', fd', r1, r2, hi', hst, -⟩ := Cond.laysFinal_spec h
      exact ⟨cf', kf', fi', fd', hi', hst⟩
theorem sb_3 (hts : ∀ w ∈ lw_tbl, w.before #[Value.ref b] s = true) (h1 : clT s ("StatueChancery$Command", TZCommand, 2)) (c : Nat) (q : vw_C) (hq : qq_cl[c]? = some q) : s.vm.findClass q.1 = some (q1 s c) ∧ ∀ k, k < q.2.2 → ∃ cf kf fi fd, s.fieldFound? (q.2.1 k).1 (q.2.1 k).2.1 (q.2.1 k).2.2.1 = some (cf, kf, fi, fd) ∧ fd.isStatic = false ∧ fd.slot = q2 s c k := by
  have key : clT s q := by
    have hm := List.mem_of_getElem? hq
    unfold qq_cl at hm
    simp only [List.mem_cons, List.not_mem_nil, or_false] at hm
    rcases hm with rfl | rfl | rfl | rfl | rfl | rfl | rfl | rfl | rfl | rfl | rfl | rfl | rfl
    rotate_left 1
    · exact h1
    all_goals exact clT_of hts (by decide +kernel) (by decide)
  obtain ⟨⟨cC, e1⟩, e2⟩ := key
  refine ⟨?_, fun k hk => ?_⟩
  · unfold q1
    rw [hq]
    simp only [e1, Option.getD_some]
  · obtain ⟨cf, kf, fi, fd, e3, e4⟩ := e2 k hk
    refine ⟨cf, kf, fi, fd, e3, e4, ?_⟩
    unfold q2
    rw [hq]
    simp only [e3]
theorem arr_p {args : Array Value} {ty : FieldType} {t : Nat} (ht : qq_et t = ty) (h : (Cond.arrayClass ty).before args s = true) (hr : ∀ cA, s.vm.findClass ("[" ++ ty.toString) = some cA → va_RA s cA ty) : ArrOfT s (q3 s t) (qq_et t) ∧ va_RA s (q3 s t) (qq_et t) := by
  obtain ⟨cA, kA, comp, hfind, hk, hkind⟩ := Cond.arrayClass_spec h
  have e : q3 s t = cA := by unfold q3; rw [ht, hfind]; rfl
  rw [e, ht]
  exact ⟨fun N z => ⟨(fun k h => by cases h), kA, hk, comp, hkind⟩, hr cA hfind⟩
theorem sb_4 (hts : ∀ w ∈ lw_tbl, w.before #[Value.ref b] s = true) (t : Nat) (ht : qq_at t = true) : ArrOfT s (q3 s t) (qq_et t) ∧ va_RA s (q3 s t) (qq_et t) := by
  have : t = 100 ∨ t = 101 ∨ t = 102 ∨ t = 105 ∨ t = 110 ∨ t = 111 ∨ t = 112 := by
    simp only [qq_at, Bool.or_eq_true, decide_eq_true_eq] at ht; omega
  have ho : ∀ (C : String) (t : Nat), qq_et t = .object C → (Cond.arrayOver (.object C)).before #[Value.ref b] s = true → ArrOfT s (q3 s t) (qq_et t) ∧ va_RA s (q3 s t) (qq_et t) := by
    intro C t ht h
    obtain ⟨comp, cA, kA, f1, f2, f3, f4, f5⟩ := Cond.arrayOver_spec h
    have e : q3 s t = cA := by unfold q3; rw [ht, f5]; rfl
    rw [e, ht]
    exact ⟨fun N z => ⟨(fun k h => by cases h), kA, f3, comp, f4⟩, kA, comp, f3, f4, f1, f5⟩
  rcases this with rfl | rfl | rfl | rfl | rfl | rfl | rfl
  · exact arr_p (ty := .int) rfl (hts _ (by decide +kernel)) (fun _ h => h)
  · exact arr_p (ty := .boolean) rfl (hts _ (by decide +kernel)) (fun _ h => h)
  · exact arr_p (ty := .byte) rfl (hts _ (by decide +kernel)) (fun _ h => h)
  · exact arr_p (ty := .long) rfl (hts _ (by decide +kernel)) (fun _ h => h)
  · have h := hts (.arrayOver (.array .int)) (by decide +kernel)
    obtain ⟨comp, cA, kA, f1, f2, f3, f4, f5⟩ := arrayOverA_spec h
    have e : q3 s 110 = cA := by unfold q3; rw [show qq_et 110 = .array .int from rfl, f5]; rfl
    rw [e]
    exact ⟨fun N z => ⟨(fun k h => by cases h), kA, f3, comp, f4⟩, f5⟩
  · exact ho "StatueChancery$Realm" 111 rfl (hts _ (by decide +kernel))
  · exact ho "StatueChancery$Command" 112 rfl (hts _ (by decide +kernel))
end SB
