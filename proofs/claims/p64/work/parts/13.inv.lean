/-! CALLS ARE SOUND -/
def qq_np (y : MethodName) (n : Nat) : Bool := decide (y.cls ≠ "java/lang/invoke/MethodHandle") && decide (y.cls ≠ "java/lang/invoke/VarHandle") && decide ((parseMethodDescriptor y.desc).map (fun d => d.parameters.length) = some n)
def qq_cod (cal w : Nat) : Bool := qq_is w (.code (qq_y cal) (qq_cd cal) (qq_maxL cal) (qq_ret cal)) && decide (qq_maxL cal ≤ 27) && decide (qq_hn cal = [])
def qq_okc (mi : Nat) (i : Instr) (lk : List Nat) : Bool := match i, lk with
  | .invokestatic ix, [0, cal, n, _, w1, w2, w3, w4] => qq_cod cal w4 && qq_np (qq_y cal) n && qq_is w1 (.methodLink (qq_y mi).cls ix (qq_y cal)) && qq_is w2 (.static (qq_y cal)) && qq_is w3 (.initialized (qq_y cal).cls)
  | .invokestatic ix, [3, cal, n, _, w1, w2, w3, w4] => qq_cod cal w4 && qq_np (qq_y cal) n && qq_is w1 (.methodLinkNest (qq_y mi).cls ix (qq_y cal) "StatueChancery") && qq_is w2 (.static (qq_y cal)) && qq_is w3 (.initialized (qq_y cal).cls)
  | .invokestatic ix, [8, cal, n, _, w1, w2, w3, w4] => qq_is w4 (.codeWith (qq_y cal) (qq_cd cal) (qq_maxL cal) (qq_ret cal) (qq_hh cal)) && decide (qq_maxL cal ≤ 27) && decide (qq_hn cal ≠ []) && qq_np (qq_y cal) n && qq_is w1 (.methodLink (qq_y mi).cls ix (qq_y cal)) && qq_is w2 (.static (qq_y cal)) && qq_is w3 (.initialized (qq_y cal).cls)
  | .invokespecial ix, [2, cal, n + 1, _, w1, w2, w3, w4] => qq_cod cal w4 && qq_np (qq_y cal) n && qq_is w1 (.methodLink (qq_y mi).cls ix (qq_y cal)) && qq_is w2 (.instanceMethod (qq_y cal)) && qq_is w3 (.initialized (qq_y cal).cls) && decide ((qq_y cal).name = "<init>") && decide (qq_ret cal = none)
  | .invokespecial ix, [5, cal, n + 1, _, w1, w2, w3, w4] => qq_cod cal w4 && qq_np (qq_y cal) n && qq_is w1 (.methodLinkNest (qq_y mi).cls ix (qq_y cal) "StatueChancery") && qq_is w2 (.instanceMethod (qq_y cal)) && qq_is w3 (.initialized (qq_y cal).cls) && decide ((qq_y cal).name = "<init>") && decide (qq_ret cal = none)
  | .invokespecial ix, [6, cal, n + 1, ci, w1, w2, w3, w4, w5, w6] => qq_cod cal w6 && qq_np (qq_y cal) n && qq_is w1 (.methodLink (qq_y mi).cls ix (qq_y cal)) && qq_is w2 (.sameMethod (qq_y cal).cls (qq_y cal).cls (qq_y cal).name (qq_y cal).desc) && qq_is w3 (.superclass (qq_y mi).cls (qq_y cal).cls) && qq_is w4 (.instanceMethod (qq_y cal)) && qq_is w5 (.initialized (qq_y cal).cls) && decide ((qq_y cal).name ≠ "<init>") && decide (2 ≤ ci) && decide (ci < 13)
  | .invokevirtual ix, [1, cal, n + 1, ci, w1, w2, w3, w4, w5] => (match qq_cl[ci]? with
    | some q => qq_cod cal w5 && qq_np (qq_y cal) n && qq_is w1 (.methodLink (qq_y mi).cls ix (qq_y cal)) && qq_is w2 (.instanceMethod (qq_y cal)) && qq_is w3 (.selects q.1 (qq_y cal) (qq_y cal)) && qq_is w4 (.initialized (qq_y cal).cls)
    | none => false)
  | .invokevirtual ix, [4, cal, n + 1, ci, w1, w2, w3, w4, w5] => (match qq_cl[ci]? with
    | some q => qq_cod cal w5 && qq_np (qq_y cal) n && qq_is w1 (.methodLinkNest (qq_y mi).cls ix (qq_y cal) "StatueChancery") && qq_is w2 (.instanceMethod (qq_y cal)) && qq_is w3 (.selects q.1 (qq_y cal) (qq_y cal)) && qq_is w4 (.initialized (qq_y cal).cls)
    | none => false)
  | .invokevirtual ix, [7, cal, n + 1, ci, w1, w2, w3, w4, w5, w6] => (match qq_cl[ci]? with
    | some q => qq_cod cal w6 && qq_np (qq_y cal) n && qq_is w1 (.methodLink (qq_y mi).cls ix ⟨q.1, (qq_y cal).name, (qq_y cal).desc⟩) && qq_is w2 (.sameMethod q.1 (qq_y cal).cls (qq_y cal).name (qq_y cal).desc) && qq_is w3 (.selects q.1 ⟨q.1, (qq_y cal).name, (qq_y cal).desc⟩ (qq_y cal)) && qq_is w4 (.instanceMethod (qq_y cal)) && qq_is w5 (.initialized (qq_y cal).cls)
    | none => false)
  | .invokevirtual ix, [9, cal, n + 1, ci, c0, w1, w2, w3, w4, w5, w6, w7, w8] => (match qq_cl[ci]? with
    | some q => qq_cod cal w8 && qq_np (qq_y c0) n && qq_is w1 (.methodLink (qq_y mi).cls ix (qq_y c0)) && qq_is w2 (.sameMethod (qq_y c0).cls (qq_y c0).cls (qq_y c0).name (qq_y c0).desc) && qq_is w3 (.instanceMethod (qq_y c0)) && qq_is w4 (.code (qq_y c0) (qq_cd c0) (qq_maxL c0) (qq_ret c0)) && qq_is w5 (.selects q.1 (qq_y c0) (qq_y cal)) && qq_is w6 (.instanceMethod (qq_y cal)) && qq_is w7 (.initialized (qq_y cal).cls)
    | none => false)
  | _, _ => false
theorem np_len {y : MethodName} {n : Nat} (h : qq_np y n = true) : (y.cls ≠ "java/lang/invoke/MethodHandle" ∧ y.cls ≠ "java/lang/invoke/VarHandle") ∧ ∀ sig, parseMethodDescriptor y.desc = some sig → n = sig.parameters.length := by
  simp only [qq_np, Bool.and_eq_true, decide_eq_true_eq] at h
  refine ⟨h.1, fun sig hs => ?_⟩
  have h2 := h.2
  rw [hs] at h2
  exact (Option.some.inj h2).symm
section QIN
variable {p : Program} {l : Launch} {e : Env} {R : Room} {s : State} {m : MethodId} {args : Array Value} {below : List Frame} {meth : Method} {c : Code} {H : Heap} {locs : List Loc} {cells slots : Nat} {Q : State → Prop}
variable {cc : ByteArray} {pc : Nat} {ls : Array Slot} {X : qq_X} {σ σ' : qq_S} {o : qq_O}
theorem one_word {w0 : Jvm.Cond} (hg : goodWord w0 = true) (h : w0.before args s = true) : ∀ w ∈ [w0], ∀ (a' : Array Value) (U : State), s.WarmedH U.vm → w.before a' U = true := by
  intro w hw a' U hW
  rw [List.mem_singleton.mp hw]
  exact word_at hW (good_of_word hg) h
theorem cal_stack {i : Instr} {lk : List Nat} {st : List Value} {cal : Nat} {av rest : List Value} (hs : qq_cal i lk st σ = some (cal, av, rest)) :
    ∃ kind n ci tl, lk = kind :: cal :: n :: ci :: tl ∧ av.length = n ∧ (qq_sl av).length ≤ qq_maxL cal ∧ st.map (rv_ X) = (av.map (rv_ X)).reverse ++ rest.map (rv_ X) ∧ (rest.map fun v => v.category).sum ≤ 8 ∧ (kind ≠ 0 → kind ≠ 3 → kind ≠ 8 → ∃ a, av.head? = some (.ref a) ∧ (kd_S σ a).1 < 200 ∧ (kind ≠ 2 → kind ≠ 5 → (kd_S σ a).1 = ci)) := by
  unfold qq_cal at hs
  split at hs
  · rename_i kind callee n ci tl
    obtain ⟨⟨h1, h2, h6, h3, h4⟩, h5⟩ := qq_if_some hs
    cases h5
    refine ⟨kind, n, ci, tl, rfl, by simp; omega, h6, ?_, h3, h4⟩
    rw [← List.map_reverse, List.reverse_reverse, ← List.map_append, List.take_append_drop]
  · cases hs
theorem so_call {mi d cal : Nat} {i : Instr} {lk : List Nat} {st av rest : List Value} (hx : p.tables.exec = Jvm.exec) (hb : c.code = cc) (hF : qq_Fx X s) (hP : qq_Hp X σ H) (hlo : ∀ z ∈ locs, xb_ X ≤ z.base) (hown : s.vm.findClass (qq_y mi).cls = some m.cls)
    (hs : qq_cal i lk st σ = some (cal, av, rest)) (hok : qq_okc mi i lk = true) (hd : decode cc pc = .ok (i, 3)) (hsz : ls.size = c.maxLocals) (hfr : d + 9 ≤ R.frames) (hlc : 46 * d + 156 ≤ R.locals)
    (hM : qq_hn cal = [] → qq_Met l X d cal av σ o σ') (hMW : qq_hn cal ≠ [] → qq_MetW l X d cal av σ o σ') (hc : cells + (sz_S σ' - sz_S σ) ≤ R.cells) (hsl : slots + (su_S σ' - su_S σ) ≤ R.slots)
    (kr : ∀ (v : Option Value) (H' : Heap) (locs' : List Loc), o = .inl v → qq_Hp X σ' H' → (∀ z ∈ locs', xb_ X ≤ z.base) → W p l e R s m args below meth c H' locs' (cells + (sz_S σ' - sz_S σ)) (slots + (su_S σ' - su_S σ)) Q (F0 m (pc + 3) ls ((v.toList ++ rest).map (rv_ X))))
    (kx : ∀ (x : Nat) (q9 : String × Nat × Nat × List String) (z : Addr) (ce : Cell) (H' : Heap) (locs' : List Loc), o = .inr x → qq_ex[x]? = some q9 → qq_Hp X σ' H' → (∀ z ∈ locs', xb_ X ≤ z.base) → H'[z]? = some ce → ce.vm = .none → s.vm.findClass q9.1 = some ce.cls → vx_W p l e R s m args below meth c H' locs' (cells + (sz_S σ' - sz_S σ)) (slots + (su_S σ' - su_S σ)) Q (F0 m pc ls (rest.map (rv_ X))) z) :
    W p l e R s m args below meth c H locs cells slots Q (F0 m pc ls (st.map (rv_ X))) := by
  obtain ⟨kind, n0, ci0, tl, hlk, hlen, -, hst, hcat, hrec⟩ := cal_stack (X := X) hs
  rw [hst]
  have hcat' : 2 * (F0 m pc ls ((av.map (rv_ X)).reverse ++ rest.map (rv_ X))).monitorRoom + ((rest.map (rv_ X)).map fun v => v.category).sum ≤ 8 := by
    rw [rv_cats]
    show 2 * 0 + _ ≤ 8
    omega
  have hPc : ∀ U : State, U.heap = H → s.WarmedH U.vm → qq_Pc X av σ (av.map (rv_ X)).toArray U := fun U hU hW => ⟨rfl, Fx_moved hF hW, by rw [hU]; exact hP⟩
  have hfix : CallFix p m c cc c.maxLocals s args [] (qq_y mi).cls := ⟨hx, hb, rfl, hown, fun w h => nomatch h⟩
  have hcodg : ∀ cal w, qq_cod cal w = true → (Cond.code (qq_y cal) (qq_cd cal) (qq_maxL cal) (qq_ret cal)).before args s = true ∧ qq_maxL cal ≤ 27 ∧ qq_hn cal = [] := by
    intro cal w h
    simp only [qq_cod, Bool.and_eq_true, decide_eq_true_eq] at h
    exact ⟨is_word hF h.1.1 rfl, h.1.2, h.2⟩
  have hrm : ∀ cal9, qq_maxL cal9 ≤ 27 → d + 8 + 1 ≤ R.frames ∧ 8 + (qq_maxL cal9 + 11) + (46 * d + 110) ≤ R.locals := fun _ h => ⟨by omega, by omega⟩
  have hbl := Pc_blind X av σ
  -- a receiver
  have hrcv : (kind ≠ 0 ∧ kind ≠ 3 ∧ kind ≠ 8) → ∃ (a : Nat) (As : List Value) (b : Addr), av = .ref a :: As ∧ As.length + 1 = n0 ∧ rv_ X (.ref a) = .ref b ∧ (kd_S σ a).1 < 200 ∧ ((kind ≠ 2 ∧ kind ≠ 5) → (kd_S σ a).1 = ci0) := by
    intro hk
    obtain ⟨a, h1, h2, h3⟩ := hrec hk.1 hk.2.1 hk.2.2
    cases av with
    | nil => cases h1
    | cons v As =>
      cases h1
      obtain ⟨b, hb9, -⟩ := hp_ref hF hP h2
      exact ⟨a, As, b, rfl, hlen, by simp only [rv_, hb9]; rfl, h2, fun h => h3 h.1 h.2⟩
  have hcel : ∀ (a ci : Nat) (b : Addr) (q : vw_C), qq_cl[ci]? = some q → (kd_S σ a).1 = ci → rv_ X (.ref a) = .ref b → ∃ cellB : Cell, H[b]? = some cellB ∧ cellB.vm.isStatics = false ∧ s.vm.findClass q.1 = some cellB.cls := by
    intro a ci b q hq hk hb9
    have hlt : ci < 13 := cl_lt hq
    obtain ⟨p9, e1, cell, e2, e3, -, e4, -⟩ := hp_ob hP hk (by omega)
    have e5 : rv_ X (.ref a) = .ref p9 := by simp only [rv_, e1]; rfl
    cases e5.symm.trans hb9
    exact ⟨cell, e2, e4, by rw [e3]; exact (hF.2.2.1 ci q hq).1⟩
  unfold qq_okc at hok
  split at hok
  · -- static
    rename_i ix cal9 n9 _ w1 w2 w3 w4
    cases hlk
    simp only [Bool.and_eq_true] at hok
    obtain ⟨⟨⟨⟨h1, h2⟩, h3⟩, h4⟩, h5⟩ := hok
    obtain ⟨g1, g2, g3⟩ := hcodg _ _ h1
    obtain ⟨g4, g5⟩ := np_len h2
    obtain ⟨hf1, hf2⟩ := hrm _ g2
    refine so_back (hr := vx_runS (index := ix) (n := n0) (own := (qq_y mi).cls) hfix (hM g3) ⟨⟨rfl, rfl, hf1, hf2, one_word rfl g1, List.mem_singleton.mpr rfl, g1, is_word hF h5 rfl, g4, g5, is_word hF h3 rfl⟩, is_word hF h4 rfl⟩ (As := av.map (rv_ X)) ⟨hbl, hPc⟩ rfl (by rw [List.length_map]; exact hlen) hsz rfl hcat' hd ⟨hc, hsl⟩) hlo kr kx
  · -- static, of a nest mate
    rename_i ix cal9 n9 _ w1 w2 w3 w4
    cases hlk
    simp only [Bool.and_eq_true] at hok
    obtain ⟨⟨⟨⟨h1, h2⟩, h3⟩, h4⟩, h5⟩ := hok
    obtain ⟨g1, g2, g3⟩ := hcodg _ _ h1
    obtain ⟨g4, g5⟩ := np_len h2
    obtain ⟨hf1, hf2⟩ := hrm _ g2
    refine so_back (hr := vx_runSN (index := ix) (n := n0) (own := (qq_y mi).cls) (host := "StatueChancery") hfix (hM g3) ⟨⟨⟨rfl, rfl, hf1, hf2, one_word rfl g1, List.mem_singleton.mpr rfl⟩, g1, is_word hF h5 rfl, g4, g5, va_Nw.use rfl (is_nw hF h3 rfl)⟩, is_word hF h4 rfl, trivial⟩ (As := av.map (rv_ X)) ⟨hbl, hPc⟩ rfl (by rw [List.length_map]; exact hlen) hsz rfl hcat' hd ⟨hc, hsl⟩) hlo kr kx
  · -- static, with a table of its own
    rename_i ix cal9 n9 _ w1 w2 w3 w4
    cases hlk
    simp only [Bool.and_eq_true, decide_eq_true_eq] at hok
    obtain ⟨⟨⟨⟨⟨⟨h1, h6⟩, h7⟩, h2⟩, h3⟩, h4⟩, h5⟩ := hok
    have g1 := is_word hF h1 rfl (a' := args)
    obtain ⟨g4, g5⟩ := np_len h2
    obtain ⟨hf1, hf2⟩ := hrm _ h6
    refine so_backW (hr := vx_runSW (index := ix) (n := n0) (own := (qq_y mi).cls) hfix (hMW h7) ⟨⟨rfl, rfl, hf1, hf2, one_word rfl g1, List.mem_singleton.mpr rfl⟩, g1, is_word hF h5 rfl, g4, g5, is_word hF h3 rfl, is_word hF h4 rfl⟩ (As := av.map (rv_ X)) ⟨hbl, hPc⟩ rfl (by rw [List.length_map]; exact hlen) hsz rfl hcat' hd ⟨hc, hsl⟩) hlo kr
  · -- a constructor
    rename_i ix cal9 n9 _ w1 w2 w3 w4
    cases hlk
    simp only [Bool.and_eq_true, decide_eq_true_eq] at hok
    obtain ⟨⟨⟨⟨⟨⟨h1, h2⟩, h3⟩, h4⟩, h5⟩, h6⟩, h7⟩ := hok
    obtain ⟨g1, g2, g3⟩ := hcodg _ _ h1
    obtain ⟨g4, g5⟩ := np_len h2
    obtain ⟨hf1, hf2⟩ := hrm _ g2
    obtain ⟨a, As, b, rfl, hAs, hab, hka, -⟩ := hrcv (by decide)
    rw [List.map_cons, hab] at hPc
    have hst9 : (F0 m pc ls (((.ref a :: As).map (rv_ X)).reverse ++ rest.map (rv_ X))).stack = (As.map (rv_ X)).reverse ++ .ref b :: rest.map (rv_ X) := by
      rw [List.map_cons, hab, List.reverse_cons]; show _ ++ _ ++ _ = _; rw [List.append_assoc]; rfl
    have hM3 := hM g3
    rw [qq_Met, h7] at hM3
    rw [h7] at g1
    have hr := vx_runI (R := R) (p := p) (l := l) (e := e) (m := m) (c := c) (cc := cc) (s := s) (args := args) (below := below) (meth := meth) (H := H) (locs := locs) (cells := cells) (slots := slots) (index := ix) (n := n9) (own := (qq_y mi).cls) hfix hM3 ⟨⟨rfl, rfl, hf1, hf2, one_word rfl g1, List.mem_singleton.mpr rfl, g1, is_word hF h5 rfl, g4, g5, is_word hF h3 rfl⟩, h6, is_word hF h4 rfl⟩ (b := b) (As := As.map (rv_ X)) ⟨hbl, hPc⟩ rfl (by rw [List.length_map]; omega) hsz hst9 hcat' hd ⟨hc, hsl⟩
    exact so_back (hr := hr) hlo kr kx
  · -- a constructor of a nest mate
    rename_i ix cal9 n9 _ w1 w2 w3 w4
    cases hlk
    simp only [Bool.and_eq_true, decide_eq_true_eq] at hok
    obtain ⟨⟨⟨⟨⟨⟨h1, h2⟩, h3⟩, h4⟩, h5⟩, h6⟩, h7⟩ := hok
    obtain ⟨g1, g2, g3⟩ := hcodg _ _ h1
    obtain ⟨g4, g5⟩ := np_len h2
    obtain ⟨hf1, hf2⟩ := hrm _ g2
    obtain ⟨a, As, b, rfl, hAs, hab, hka, -⟩ := hrcv (by decide)
    rw [List.map_cons, hab] at hPc
    have hst9 : (F0 m pc ls (((.ref a :: As).map (rv_ X)).reverse ++ rest.map (rv_ X))).stack = (As.map (rv_ X)).reverse ++ .ref b :: rest.map (rv_ X) := by
      rw [List.map_cons, hab, List.reverse_cons]; show _ ++ _ ++ _ = _; rw [List.append_assoc]; rfl
    have hM3 := hM g3
    rw [qq_Met, h7] at hM3
    rw [h7] at g1
    have hr := vx_runIN (R := R) (p := p) (l := l) (e := e) (m := m) (c := c) (cc := cc) (s := s) (args := args) (below := below) (meth := meth) (H := H) (locs := locs) (cells := cells) (slots := slots) (index := ix) (n := n9) (own := (qq_y mi).cls) (host := "StatueChancery") hfix hM3 ⟨⟨⟨rfl, rfl, hf1, hf2, one_word rfl g1, List.mem_singleton.mpr rfl⟩, g1, is_word hF h5 rfl, g4, g5, va_Nw.use rfl (is_nw hF h3 rfl)⟩, h6, is_word hF h4 rfl⟩ (b := b) (As := As.map (rv_ X)) ⟨hbl, hPc⟩ rfl (by rw [List.length_map]; omega) hsz hst9 hcat' hd ⟨hc, hsl⟩
    exact so_back (hr := hr) hlo kr kx
  · -- the method of a class above, by name
    rename_i ix cal9 n9 ci w1 w2 w3 w4 w5 w6
    cases hlk
    simp only [Bool.and_eq_true, decide_eq_true_eq] at hok
    obtain ⟨⟨⟨⟨⟨⟨⟨⟨⟨h1, h2⟩, h3⟩, h4⟩, h5⟩, h6⟩, h7⟩, h8⟩, h9⟩, h10⟩ := hok
    obtain ⟨g1, g2, g3⟩ := hcodg _ _ h1
    obtain ⟨g4, g5⟩ := np_len h2
    obtain ⟨hf1, hf2⟩ := hrm _ g2
    obtain ⟨a, As, b, rfl, hAs, hab, hka, hkc⟩ := hrcv (by decide)
    rw [List.map_cons, hab] at hPc
    have hst9 : (F0 m pc ls (((.ref a :: As).map (rv_ X)).reverse ++ rest.map (rv_ X))).stack = (As.map (rv_ X)).reverse ++ .ref b :: rest.map (rv_ X) := by
      rw [List.map_cons, hab, List.reverse_cons]; show _ ++ _ ++ _ = _; rw [List.append_assoc]; rfl
    obtain ⟨q, hq⟩ : ∃ q, qq_cl[ci0]? = some q := ⟨_, List.getElem?_eq_getElem (by show ci0 < 13; exact h10)⟩
    obtain ⟨kC, hkC, hkC2, -⟩ := qq_ord hF hq (by omega)
    have hr := vx_runSU (R := R) (p := p) (l := l) (e := e) (m := m) (c := c) (cc := cc) (s := s) (args := args) (below := below) (meth := meth) (H := H) (locs := locs) (cells := cells) (slots := slots) (C := q.1) (cC := X.1 ci0) (index := ix) (n := n9) (own := (qq_y mi).cls) ⟨(hF.2.2.1 ci0 q hq).1, kC, hkC, hkC2⟩ hfix (hM g3) ⟨⟨rfl, rfl, hf1, hf2, one_word rfl g1, List.mem_singleton.mpr rfl⟩, is_word hF h3 rfl, is_word hF h4 rfl, is_word hF h5 rfl, is_word hF h6 rfl, is_word hF h7 rfl, g1, h8, g5⟩ (b := b) (As := As.map (rv_ X)) ⟨hbl, hcel a ci0 b q hq (hkc (by decide)) hab, hPc⟩ rfl (by rw [List.length_map]; omega) hsz hst9 hcat' hd ⟨hc, hsl⟩
    exact so_back (hr := hr) hlo kr kx
  · -- virtual
    rename_i ix cal9 n9 ci w1 w2 w3 w4 w5
    cases hlk
    split at hok
    · rename_i q hq
      simp only [Bool.and_eq_true, decide_eq_true_eq] at hok
      obtain ⟨⟨⟨⟨⟨h1, h2⟩, h3⟩, h4⟩, h5⟩, h6⟩ := hok
      obtain ⟨g1, g2, g3⟩ := hcodg _ _ h1
      obtain ⟨g4, g5⟩ := np_len h2
      obtain ⟨hf1, hf2⟩ := hrm _ g2
      obtain ⟨a, As, b, rfl, hAs, hab, hka, hkc⟩ := hrcv (by decide)
      rw [List.map_cons, hab] at hPc
      have hst9 : (F0 m pc ls (((.ref a :: As).map (rv_ X)).reverse ++ rest.map (rv_ X))).stack = (As.map (rv_ X)).reverse ++ .ref b :: rest.map (rv_ X) := by
        rw [List.map_cons, hab, List.reverse_cons]; show _ ++ _ ++ _ = _; rw [List.append_assoc]; rfl
      have hr := vx_runV (R := R) (p := p) (l := l) (e := e) (m := m) (c := c) (cc := cc) (s := s) (args := args) (below := below) (meth := meth) (H := H) (locs := locs) (cells := cells) (slots := slots) (C := q.1) (index := ix) (n := n9) (own := (qq_y mi).cls) hfix (hM g3) ⟨⟨rfl, rfl, hf1, hf2, one_word rfl g1, List.mem_singleton.mpr rfl, g1, is_word hF h6 rfl, g4, g5, is_word hF h3 rfl⟩, is_word hF h4 rfl, is_word hF h5 rfl⟩ (b := b) (As := As.map (rv_ X)) ⟨hbl, hcel a ci0 b q hq (hkc (by decide)) hab, hPc⟩ rfl (by rw [List.length_map]; omega) hsz hst9 hcat' hd ⟨hc, hsl⟩
      exact so_back (hr := hr) hlo kr kx
    · cases hok
  · -- virtual, of a nest mate
    rename_i ix cal9 n9 ci w1 w2 w3 w4 w5
    cases hlk
    split at hok
    · rename_i q hq
      simp only [Bool.and_eq_true, decide_eq_true_eq] at hok
      obtain ⟨⟨⟨⟨⟨h1, h2⟩, h3⟩, h4⟩, h5⟩, h6⟩ := hok
      obtain ⟨g1, g2, g3⟩ := hcodg _ _ h1
      obtain ⟨g4, g5⟩ := np_len h2
      obtain ⟨hf1, hf2⟩ := hrm _ g2
      obtain ⟨a, As, b, rfl, hAs, hab, hka, hkc⟩ := hrcv (by decide)
      rw [List.map_cons, hab] at hPc
      have hst9 : (F0 m pc ls (((.ref a :: As).map (rv_ X)).reverse ++ rest.map (rv_ X))).stack = (As.map (rv_ X)).reverse ++ .ref b :: rest.map (rv_ X) := by
        rw [List.map_cons, hab, List.reverse_cons]; show _ ++ _ ++ _ = _; rw [List.append_assoc]; rfl
      have hr := vx_runVN (R := R) (p := p) (l := l) (e := e) (m := m) (c := c) (cc := cc) (s := s) (args := args) (below := below) (meth := meth) (H := H) (locs := locs) (cells := cells) (slots := slots) (C := q.1) (index := ix) (n := n9) (own := (qq_y mi).cls) (host := "StatueChancery") hfix (hM g3) ⟨⟨⟨rfl, rfl, hf1, hf2, one_word rfl g1, List.mem_singleton.mpr rfl⟩, g1, is_word hF h6 rfl, g4, g5, va_Nw.use rfl (is_nw hF h3 rfl)⟩, is_word hF h4 rfl, is_word hF h5 rfl⟩ (b := b) (As := As.map (rv_ X)) ⟨hbl, hcel a ci0 b q hq (hkc (by decide)) hab, hPc⟩ rfl (by rw [List.length_map]; omega) hsz hst9 hcat' hd ⟨hc, hsl⟩
      exact so_back (hr := hr) hlo kr kx
    · cases hok
  · -- the method of a class above
    rename_i ix cal9 n9 ci w1 w2 w3 w4 w5 w6
    cases hlk
    split at hok
    · rename_i q hq
      simp only [Bool.and_eq_true, decide_eq_true_eq] at hok
      obtain ⟨⟨⟨⟨⟨⟨h1, h2⟩, h3⟩, h4⟩, h5⟩, h6⟩, h7⟩ := hok
      obtain ⟨g1, g2, g3⟩ := hcodg _ _ h1
      obtain ⟨g4, g5⟩ := np_len h2
      obtain ⟨hf1, hf2⟩ := hrm _ g2
      obtain ⟨a, As, b, rfl, hAs, hab, hka, hkc⟩ := hrcv (by decide)
      rw [List.map_cons, hab] at hPc
      have hst9 : (F0 m pc ls (((.ref a :: As).map (rv_ X)).reverse ++ rest.map (rv_ X))).stack = (As.map (rv_ X)).reverse ++ .ref b :: rest.map (rv_ X) := by
        rw [List.map_cons, hab, List.reverse_cons]; show _ ++ _ ++ _ = _; rw [List.append_assoc]; rfl
      have hdecl : va_Decl s (qq_y cal) := va_Decl.of (is_word hF h6 rfl (a' := args)) g1
      have hr := vx_runU (x := ⟨q.1, (qq_y cal).name, (qq_y cal).desc⟩) (owner := (qq_y cal).cls) (R := R) (p := p) (l := l) (e := e) (m := m) (c := c) (cc := cc) (s := s) (args := args) (below := below) (meth := meth) (H := H) (locs := locs) (cells := cells) (slots := slots) (C := q.1) (index := ix) (n := n9) (own := (qq_y mi).cls) hfix (hM g3) ⟨⟨rfl, rfl, hf1, hf2, one_word rfl g1, List.mem_singleton.mpr rfl⟩, g1, is_word hF h7 rfl, g4, g5, is_word hF h3 rfl, is_word hF h4 rfl, hdecl, is_word hF h5 rfl, is_word hF h6 rfl⟩ (b := b) (As := As.map (rv_ X)) ⟨hbl, hcel a ci0 b q hq (hkc (by decide)) hab, hPc⟩ rfl (by rw [List.length_map]; omega) hsz hst9 hcat' hd ⟨hc, hsl⟩
      exact so_back (hr := hr) hlo kr kx
    · cases hok
  · -- a method that is written anew below
    rename_i ix cal9 n9 ci c0 w1 w2 w3 w4 w5 w6 w7 w8
    cases hlk
    split at hok
    · rename_i q hq
      simp only [Bool.and_eq_true, decide_eq_true_eq] at hok
      obtain ⟨⟨⟨⟨⟨⟨⟨⟨h1, h2⟩, h3⟩, h4⟩, h5⟩, h6⟩, h7⟩, h8⟩, h9⟩ := hok
      obtain ⟨g1, g2, g3⟩ := hcodg _ _ h1
      obtain ⟨g4, g5⟩ := np_len h2
      obtain ⟨hf1, hf2⟩ := hrm _ g2
      obtain ⟨a, As, b, rfl, hAs, hab, hka, hkc⟩ := hrcv (by decide)
      rw [List.map_cons, hab] at hPc
      have hst9 : (F0 m pc ls (((.ref a :: As).map (rv_ X)).reverse ++ rest.map (rv_ X))).stack = (As.map (rv_ X)).reverse ++ .ref b :: rest.map (rv_ X) := by
        rw [List.map_cons, hab, List.reverse_cons]; show _ ++ _ ++ _ = _; rw [List.append_assoc]; rfl
      have hdecl : va_Decl s (qq_y c0) := va_Decl.of (is_word hF h5 rfl (a' := args)) (is_word hF h6 rfl)
      have hr := vx_runU (x := qq_y c0) (owner := (qq_y c0).cls) (R := R) (p := p) (l := l) (e := e) (m := m) (c := c) (cc := cc) (s := s) (args := args) (below := below) (meth := meth) (H := H) (locs := locs) (cells := cells) (slots := slots) (C := q.1) (index := ix) (n := n9) (own := (qq_y mi).cls) hfix (hM g3) ⟨⟨rfl, rfl, hf1, hf2, one_word rfl g1, List.mem_singleton.mpr rfl⟩, g1, is_word hF h9 rfl, g4, g5, is_word hF h3 rfl, is_word hF h4 rfl, hdecl, is_word hF h7 rfl, is_word hF h8 rfl⟩ (b := b) (As := As.map (rv_ X)) ⟨hbl, hcel a ci0 b q hq (hkc (by decide)) hab, hPc⟩ rfl (by rw [List.length_map]; omega) hsz hst9 hcat' hd ⟨hc, hsl⟩
      exact so_back (hr := hr) hlo kr kx
    · cases hok
  · cases hok
end QIN
