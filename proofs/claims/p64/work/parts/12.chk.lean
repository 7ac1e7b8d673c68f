/-! WHAT THE TABLES MUST HOLD, AND ONE STEP -/
def qq_is (w : Nat) (cn : Jvm.Cond) : Bool := decide (qq_tbl[w]? = some cn)
def qq_fl (own : String) (ix : Nat) (r n d : String) (w : Nat) : Bool := qq_is w (.fieldLink own ix r n d) || qq_is w (.fieldLinkNest own ix r n d "StatueChancery")
theorem is_word {X : qq_X} {U : State} (hF : qq_Fx X U) {w : Nat} {cn : Jvm.Cond} (h : qq_is w cn = true) (hg : goodWord cn = true) {a' : Array Value} : cn.before a' U = true := Fx_word hF (of_decide_eq_true h) hg
theorem is_nw {X : qq_X} {U : State} (hF : qq_Fx X U) {w : Nat} {cn : Jvm.Cond} (h : qq_is w cn = true) (hg : nestW cn = true) : va_Nw cn U := Fx_nw hF (of_decide_eq_true h) hg
theorem fl_word {X : qq_X} {U : State} (hF : qq_Fx X U) {own r n d : String} {ix w : Nat} (h : qq_fl own ix r n d w = true) {a' : Array Value} : (Cond.fieldLink own ix r n d).before a' U = true ∨ ∃ host, (Cond.fieldLinkNest own ix r n d host).before a' U = true := by
  simp only [qq_fl, Bool.or_eq_true] at h
  rcases h with h | h
  · exact Or.inl (is_word hF h rfl)
  · exact Or.inr ⟨_, va_Nw.use rfl (is_nw hF h rfl)⟩
def qq_ok9 (m : Nat) (i : Instr) (lk : List Nat) : Bool := match i, lk with
  | .getfield ix, [c, k, w, _] => (match qq_cl[c]? with | some q => qq_fl (qq_y m).cls ix (q.2.1 k).1 (q.2.1 k).2.1 (q.2.1 k).2.2.1 w | none => false)
  | .putfield ix, [c, k, w, _] => (match qq_cl[c]? with
    | some q => decide (c ≠ 1) && (if (q.2.1 k).2.2.2 = true then decide ((q.2.1 k).1 = (qq_y m).cls) && decide ((qq_y m).name = "<init>") && qq_is w (.fieldLink (qq_y m).cls ix (q.2.1 k).1 (q.2.1 k).2.1 (q.2.1 k).2.2.1) else qq_fl (qq_y m).cls ix (q.2.1 k).1 (q.2.1 k).2.1 (q.2.1 k).2.2.1 w)
    | none => false)
  | .getstatic ix, [i, w] => (match qq_stat[i]? with | some q => qq_fl (qq_y m).cls ix q.1 q.2.1 q.2.2.1 w | none => false)
  | .ldc ix, [0, n, w] => qq_is w (.constant (qq_y m).cls ix (Int32.ofNat n))
  | .ldc ix, [1, id, _] => decide (id < qq_K0) && qq_strs.any fun q => decide (q.1 = (qq_y m).cls) && decide (q.2.1 = ix) && decide (q.2.2.2 = id)
  | .ldc_w ix, [1, id, _] => decide (id < qq_K0) && qq_strs.any fun q => decide (q.1 = (qq_y m).cls) && decide (q.2.1 = ix) && decide (q.2.2.2 = id)
  | .ldc_w ix, [0, n, w] => qq_is w (.constant (qq_y m).cls ix (Int32.ofNat n))
  | .new ix, [0, c, w1, _, w3] => (match qq_cl[c]? with | some q => decide (c ≠ 1) && qq_is w1 (.classLink (qq_y m).cls ix q.1) && qq_is w3 (.initialized q.1) | none => false)
  | .newarray at_, [t, w] => qq_at t && decide (qq_et t = newarray.typeOf at_) && qq_is w (.arrayClass (newarray.typeOf at_))
  | .anewarray ix, [t, w1, w2] => qq_at t && (match qq_et t with | .object C => qq_is w1 (.classLink (qq_y m).cls ix C) && qq_is w2 (.arrayOver (.object C)) | _ => false)
  | .multianewarray ix 2, [110, w1, w2, w3] => qq_is w1 (.classLink (qq_y m).cls ix "[[I") && qq_is w2 (.arrayOver (.array .int)) && qq_is w3 (.arrayClass .int)
  | .invokestatic ix, [20, w1, w2, w3, w4] => qq_is w1 (.methodLink (qq_y m).cls ix arraycopyName) && qq_is w2 (.native arraycopyName) && qq_is w3 (.static arraycopyName) && qq_is w4 (.initialized "java/lang/System")
  | .invokestatic ix, [22, w1, w2, w3, w4] => qq_is w1 (.methodLink (qq_y m).cls ix Lib.Math.max.name) && qq_is w2 (.static Lib.Math.max.name) && qq_is w3 (.initialized "java/lang/Math") && qq_is w4 (.code Lib.Math.max.name Lib.Math.max.code 2 (some .int))
  | .invokestatic ix, [23, w1, w2, w3, w4] => qq_is w1 (.methodLink (qq_y m).cls ix Lib.Math.min.name) && qq_is w2 (.static Lib.Math.min.name) && qq_is w3 (.initialized "java/lang/Math") && qq_is w4 (.code Lib.Math.min.name Lib.Math.min.code 2 (some .int))
  | .invokespecial ix, [21, w1, w2, w3] => qq_is w1 (.methodLink (qq_y m).cls ix Lib.objectInit) && qq_is w2 (.instanceMethod Lib.objectInit) && qq_is w3 (.code Lib.objectInit ⟨#[0xb1]⟩ 1 none)
  | .invokevirtual ix, [24, w1, w2, w3, w4, w5, w6] => qq_is w1 (.methodLink (qq_y m).cls ix ⟨"[B", "clone", "()Ljava/lang/Object;"⟩) && qq_is w2 (.sameMethod "[B" "java/lang/Object" "clone" "()Ljava/lang/Object;") && qq_is w3 (.native ⟨"java/lang/Object", "clone", "()Ljava/lang/Object;"⟩) && qq_is w4 (.instanceMethod ⟨"java/lang/Object", "clone", "()Ljava/lang/Object;"⟩) && qq_is w5 (.selects "[B" ⟨"[B", "clone", "()Ljava/lang/Object;"⟩ ⟨"java/lang/Object", "clone", "()Ljava/lang/Object;"⟩) && qq_is w6 (.castable "[B" "java/lang/Cloneable")
  | .checkcast ix, [25, w1] => qq_is w1 (.classLink (qq_y m).cls ix "[B")
  | _, _ => true
section QG9
variable {p : Program} {l : Launch} {e : Env} {R : Room} {s : State} {m : MethodId} {args : Array Value} {below : List Frame} {meth : Method} {c : Code} {H : Heap} {locs : List Loc} {cells slots : Nat} {Q : State → Prop}
variable {cc : ByteArray} {pc : Nat} {ls : Array Slot} {rest : List Value} {X : qq_X} {σ σ' : qq_S}
theorem qq_put_su {ty : FieldType} {a k : Nat} {v : Value} (h : qq_put σ ty a k v = some σ') : sz_S σ' = sz_S σ ∧ su_S σ' = su_S σ := by
  obtain ⟨-, h2, h3, -⟩ := put_val h
  exact ⟨h2, h3⟩
theorem qq_if_some2 {α : Type} {P : Prop} {x : Option α} {y : α} (h : qq_if P x none = some y) : P ∧ x = some y := by
  by_cases hP : P
  · rw [qq_if_t hP] at h; exact ⟨hP, h⟩
  · rw [qq_if_f hP] at h; cases h
/-- what a step of the heap adds -/
theorem hp_grow {i : Instr} {lk : List Nat} {st st' : List Value} (hs : qq_hp i lk st σ = some (st', σ')) : sz_S σ ≤ sz_S σ' ∧ su_S σ ≤ su_S σ' := by
  unfold qq_hp at hs
  split at hs
  all_goals first
    | (obtain ⟨-, h2⟩ := qq_if_some hs; cases h2; exact ⟨Nat.le_refl _, Nat.le_refl _⟩)
    | (obtain ⟨-, h2⟩ := qq_if_some hs; cases h2; exact ⟨Nat.le_add_right _ _, Nat.le_add_right _ _⟩)
    | (obtain ⟨-, h2⟩ := qq_if_some hs; cases h2; exact ⟨Nat.le_trans (Nat.le_add_right _ _) (Nat.le_add_right _ _), Nat.le_trans (Nat.le_add_right _ _) (Nat.le_add_right _ _)⟩)
    | (obtain ⟨-, h2⟩ := qq_if_some hs; cases h2; exact cl_grow)
    | (cases hs; exact ⟨Nat.le_refl _, Nat.le_refl _⟩)
    | (cases hs; exact ⟨Nat.le_add_right _ _, Nat.le_add_right _ _⟩)
    | (cases hs; done)
    | skip
  · obtain ⟨-, h1⟩ := qq_if_some2 hs
    obtain ⟨σ9, h1, h2⟩ := Option.map_eq_some_iff.mp h1
    cases h2
    obtain ⟨h3, h4⟩ := qq_put_su h1
    exact ⟨Nat.le_of_eq h3.symm, Nat.le_of_eq h4.symm⟩
  · obtain ⟨x, -, h2⟩ := Option.map_eq_some_iff.mp hs
    cases h2; exact ⟨Nat.le_refl _, Nat.le_refl _⟩
theorem k_same {H' : Heap} {locs' : List Loc} {g : JFrame} (h1 : sz_S σ' = sz_S σ) (h2 : su_S σ' = su_S σ) (k : W p l e R s m args below meth c H' locs' (cells + (sz_S σ' - sz_S σ)) (slots + (su_S σ' - su_S σ)) Q g) : W p l e R s m args below meth c H' locs' cells slots Q g :=
  W.cs (by omega) (by omega) k
theorem k_to {H' : Heap} {locs' : List Loc} {g : JFrame} {c1 s1 : Nat} (h1 : c1 = cells + (sz_S σ' - sz_S σ)) (h2 : s1 = slots + (su_S σ' - su_S σ)) (k : W p l e R s m args below meth c H' locs' (cells + (sz_S σ' - sz_S σ)) (slots + (su_S σ' - su_S σ)) Q g) : W p l e R s m args below meth c H' locs' c1 s1 Q g :=
  W.cs h1 h2 k
theorem so_g9 {mi : Nat} {i : Instr} {lk : List Nat} {st st' : List Value} (hx : p.tables.exec = Jvm.exec) (hb : c.code = cc) (hF : qq_Fx X s) (hP : qq_Hp X σ H) (hlo : ∀ z ∈ locs, xb_ X ≤ z.base) (hown : s.vm.findClass (qq_y mi).cls = some m.cls) (hname : meth.name = (qq_y mi).name)
    (hs : qq_hp i lk st σ = some (st', σ')) (hok : qq_ok9 mi i lk = true) (hd : decode cc pc = .ok (i, qq_len i)) (hsz : ls.size = c.maxLocals) (hf : 1 ≤ R.frames) (hl : 60 ≤ R.locals) (hc : cells + (sz_S σ' - sz_S σ) ≤ R.cells) (hsl : slots + (su_S σ' - su_S σ) ≤ R.slots)
    (kk : ∀ (H' : Heap) (locs' : List Loc), qq_Hp X σ' H' → (∀ z ∈ locs', xb_ X ≤ z.base) → W p l e R s m args below meth c H' locs' (cells + (sz_S σ' - sz_S σ)) (slots + (su_S σ' - su_S σ)) Q (F0 m (pc + qq_len i) ls (st'.map (rv_ X)))) :
    W p l e R s m args below meth c H locs cells slots Q (F0 m pc ls (st.map (rv_ X))) := by
  unfold qq_hp at hs
  split at hs
  · -- getfield
    rename_i ix ci k w1 w2 a st
    obtain ⟨⟨h1, h2⟩, h3⟩ := qq_if_some2 hs
    cases h3
    simp only [qq_ok9] at hok
    split at hok
    · rename_i q hq
      exact so_get hx hb hF hP hown hq h1 h2 (fl_word hF hok) hd (k_same rfl rfl (kk H locs hP hlo))
    · cases hok
  · -- putfield
    rename_i ix ci k w1 w2 v a st
    obtain ⟨⟨h1, h2, h3⟩, h4⟩ := qq_if_some2 hs
    obtain ⟨σ9, h5, h6⟩ := Option.map_eq_some_iff.mp h4
    cases h6
    obtain ⟨g1, g2⟩ := qq_put_su h5
    simp only [qq_ok9] at hok
    split at hok
    · rename_i q hq
      simp only [Bool.and_eq_true, decide_eq_true_eq] at hok
      obtain ⟨hc2, hok⟩ := hok
      refine so_put hx hb hF hP hlo hown hq hc2 h1 h2 h3 h5 ?_ hd (fun H' locs' u1 u2 => k_same g1 g2 (kk H' locs' u1 u2))
      split at hok
      · rename_i hfin
        simp only [Bool.and_eq_true, decide_eq_true_eq] at hok
        exact Or.inr ⟨hfin, hok.1.1, hname.trans hok.1.2, is_word hF hok.2 rfl⟩
      · rename_i hfin
        exact Or.inl ⟨by simpa using hfin, fl_word hF hok⟩
    · cases hok
  · -- getstatic
    rename_i ix i0 w1 st
    obtain ⟨q, h1, h2⟩ := Option.map_eq_some_iff.mp hs
    cases h2
    simp only [qq_ok9, h1] at hok
    exact so_gets hx hb hF hP hown h1 (fl_word hF hok) hd (k_same rfl rfl (kk H locs hP hlo))
  · -- ldc of a number
    cases hs
    simp only [qq_ok9] at hok
    exact lv_ldc hx hb hown (is_word hF hok rfl) hd (k_same rfl rfl (kk H locs hP hlo))
  · -- ldc of a text
    cases hs
    simp only [qq_ok9, Bool.and_eq_true, decide_eq_true_eq, List.any_eq_true] at hok
    obtain ⟨h1, q, hq, ⟨h2, h3⟩, h4⟩ := hok
    obtain ⟨i1, hi1⟩ := List.getElem?_of_mem hq
    have k1 := k_same rfl rfl (kk H locs hP hlo)
    rw [List.map_cons, ← h4] at k1
    exact so_ldcS hx hb hF hown hi1 h2 h3 (by rw [h4]; exact h1) hd k1
  · cases hs
    simp only [qq_ok9, Bool.and_eq_true, decide_eq_true_eq, List.any_eq_true] at hok
    obtain ⟨h1, q, hq, ⟨h2, h3⟩, h4⟩ := hok
    obtain ⟨i1, hi1⟩ := List.getElem?_of_mem hq
    have k1 := k_same rfl rfl (kk H locs hP hlo)
    rw [List.map_cons, ← h4] at k1
    exact so_ldcwS hx hb hF hown hi1 h2 h3 (by rw [h4]; exact h1) hd k1
  · cases hs
    simp only [qq_ok9] at hok
    exact lv_ldcw hx hb hown (is_word hF hok rfl) hd (k_same rfl rfl (kk H locs hP hlo))
  · obtain ⟨h1, h3⟩ := qq_if_some2 hs
    cases h3
    exact so_alen hx hb hF hP h1 hd (k_same rfl rfl (kk H locs hP hlo))
  · obtain ⟨h1, h3⟩ := qq_if_some2 hs
    cases h3
    exact so_iald hx hb hF hP h1.1 h1.2 hd (k_same rfl rfl (kk H locs hP hlo))
  · obtain ⟨h1, h3⟩ := qq_if_some2 hs
    cases h3
    exact so_bald hx hb hF hP h1.1 h1.2 hd (k_same rfl rfl (kk H locs hP hlo))
  · obtain ⟨h1, h3⟩ := qq_if_some2 hs
    cases h3
    exact so_lald hx hb hF hP h1.1 h1.2 hd (k_same rfl rfl (kk H locs hP hlo))
  · obtain ⟨h1, h3⟩ := qq_if_some2 hs
    cases h3
    exact so_aald hx hb hF hP h1.1 h1.2 hd (k_same rfl rfl (kk H locs hP hlo))
  · obtain ⟨h1, h3⟩ := qq_if_some2 hs
    cases h3
    exact so_iast hx hb hF hP hlo h1.1 h1.2.1 h1.2.2 hd (fun H' locs' u1 u2 => k_same rfl rfl (kk H' locs' u1 u2))
  · obtain ⟨h1, h3⟩ := qq_if_some2 hs
    cases h3
    exact so_bast hx hb hF hP hlo h1.1 h1.2.1 h1.2.2 hd (fun H' locs' u1 u2 => k_same rfl rfl (kk H' locs' u1 u2))
  · obtain ⟨h1, h3⟩ := qq_if_some2 hs
    cases h3
    exact so_last hx hb hF hP hlo h1.1 h1.2.1 h1.2.2 hd (fun H' locs' u1 u2 => k_same rfl rfl (kk H' locs' u1 u2))
  · obtain ⟨h1, h3⟩ := qq_if_some2 hs
    cases h3
    exact so_aast hx hb hF hP hlo h1.1 h1.2.1 h1.2.2 hd (fun H' locs' u1 u2 => k_same rfl rfl (kk H' locs' u1 u2))
  · -- new
    rename_i ix ci w1 w2 w3
    cases hs
    simp only [qq_ok9] at hok
    split at hok
    · rename_i q hq
      simp only [Bool.and_eq_true, decide_eq_true_eq] at hok
      have e1 : sz_S (nw_S σ 1 (ci, 0) (qq_nf ci)) - sz_S σ = 1 := by show sz_S σ + 1 - sz_S σ = 1; omega
      have e2 : su_S (nw_S σ 1 (ci, 0) (qq_nf ci)) - su_S σ = qq_nf ci := by show su_S σ + qq_nf ci - su_S σ = _; omega
      rw [e1] at hc
      rw [e2] at hsl
      exact so_new hx hb hF hP hown hq hok.1.1 (is_word hF hok.1.2 rfl) (is_word hF hok.2 rfl) hc hsl hd (fun H' u1 => k_to (by rw [e1]) (by rw [e2]) (kk H' locs u1 hlo))
    · cases hok
  · -- newarray
    rename_i at_ t w1 n st
    obtain ⟨h1, h3⟩ := qq_if_some2 hs
    cases h3
    simp only [qq_ok9, Bool.and_eq_true, decide_eq_true_eq] at hok
    have e1 : sz_S (nw_S σ 1 (t, n.toNatClampNeg) n.toNatClampNeg) - sz_S σ = 1 := by show sz_S σ + 1 - sz_S σ = 1; omega
    have e2 : su_S (nw_S σ 1 (t, n.toNatClampNeg) n.toNatClampNeg) - su_S σ = n.toNatClampNeg := by show su_S σ + n.toNatClampNeg - su_S σ = _; omega
    rw [e1] at hc
    rw [e2] at hsl
    exact so_newa hx hb hF hP hok.1.1 hok.1.2 (is_word hF hok.2 rfl) h1.1 h1.2 hc hsl hd (fun H' u1 => k_to (by rw [e1]) (by rw [e2]) (kk H' locs u1 hlo))
  · -- anewarray
    rename_i ix t w1 w2 n st
    obtain ⟨h1, h3⟩ := qq_if_some2 hs
    cases h3
    simp only [qq_ok9, Bool.and_eq_true] at hok
    obtain ⟨g1, hok⟩ := hok
    split at hok
    · rename_i C hC
      simp only [Bool.and_eq_true] at hok
      have e1 : sz_S (nw_S σ 1 (t, n.toNatClampNeg) n.toNatClampNeg) - sz_S σ = 1 := by show sz_S σ + 1 - sz_S σ = 1; omega
      have e2 : su_S (nw_S σ 1 (t, n.toNatClampNeg) n.toNatClampNeg) - su_S σ = n.toNatClampNeg := by show su_S σ + n.toNatClampNeg - su_S σ = _; omega
      rw [e1] at hc
      rw [e2] at hsl
      exact so_anew hx hb hF hP hown g1 hC (is_word hF hok.1 rfl) (va_AO.use (is_nw hF hok.2 rfl)) h1.1 h1.2 hc hsl hd (fun H' u1 => k_to (by rw [e1]) (by rw [e2]) (kk H' locs u1 hlo))
    · cases hok
  · -- multianewarray
    rename_i ix w1 w2 w3 k n st
    obtain ⟨h1, h3⟩ := qq_if_some2 hs
    cases h3
    simp only [qq_ok9, Bool.and_eq_true] at hok
    obtain ⟨e1, he1⟩ : ∃ z, z = sz_S (gr_S (nw_S (nw_S σ 1 (110, n.toNatClampNeg) n.toNatClampNeg) n.toNatClampNeg (100, k.toNatClampNeg) (n.toNatClampNeg * k.toNatClampNeg)) (sz_S σ) n.toNatClampNeg) - sz_S σ := ⟨_, rfl⟩
    have e1 : sz_S (gr_S (nw_S (nw_S σ 1 (110, n.toNatClampNeg) n.toNatClampNeg) n.toNatClampNeg (100, k.toNatClampNeg) (n.toNatClampNeg * k.toNatClampNeg)) (sz_S σ) n.toNatClampNeg) - sz_S σ = 1 + n.toNatClampNeg := by show sz_S σ + 1 + n.toNatClampNeg - sz_S σ = _; omega
    have e2 : su_S (gr_S (nw_S (nw_S σ 1 (110, n.toNatClampNeg) n.toNatClampNeg) n.toNatClampNeg (100, k.toNatClampNeg) (n.toNatClampNeg * k.toNatClampNeg)) (sz_S σ) n.toNatClampNeg) - su_S σ = n.toNatClampNeg + n.toNatClampNeg * k.toNatClampNeg := by show su_S σ + n.toNatClampNeg + n.toNatClampNeg * k.toNatClampNeg - su_S σ = _; omega
    rw [e1] at hc
    rw [e2] at hsl
    exact so_mna hx hb hF hP hown (is_word hF hok.1.1 rfl) (show (Cond.arrayOver (.array .int)).before args s = true from is_nw hF hok.1.2 rfl) (is_word hF hok.2 rfl) h1.1.1 h1.1.2 h1.2.1 h1.2.2 hc hsl hd (fun H' u1 => k_to (c1 := cells + 1 + n.toNatClampNeg) (s1 := slots + n.toNatClampNeg + n.toNatClampNeg * k.toNatClampNeg) (by rw [e1]; omega) (by rw [e2]; omega) (kk H' locs u1 hlo))
  · -- arraycopy
    obtain ⟨⟨⟨h1, h2⟩, h3, h4, ⟨h5, h6, h7⟩, h8, h9, h10⟩, h11⟩ := qq_if_some2 hs
    cases h11
    simp only [qq_ok9, Bool.and_eq_true] at hok
    refine so_copy hx hb hF hP hlo hown rfl h1.symm (h2.imp id (fun z => z.1)) h4 h5 h6 h7 h8 h9 (fun z => by
      rcases h2 with h2 | h2
      · omega
      · exact h2.2) (is_word hF hok.1.1.1 rfl) (is_word hF hok.1.1.2 rfl) (is_word hF hok.1.2 rfl) (is_word hF hok.2 rfl) hsz (by rw [rv_cats]; exact h10) hf hl hd (fun H' locs' u1 u2 => k_same rfl rfl (kk H' locs' u1 u2))
  · -- Math.max
    obtain ⟨h1, h3⟩ := qq_if_some2 hs
    cases h3
    simp only [qq_ok9, Bool.and_eq_true] at hok
    exact va_mmax hx hb hsz.symm hown (is_word hF hok.1.1.1 rfl) (is_word hF hok.1.1.2 rfl) (is_word hF hok.1.2 rfl) (is_word hF hok.2 rfl) hf (by rw [rv_cats]; omega) (by omega) (by omega) hd (k_same rfl rfl (kk H locs hP hlo))
  · -- Math.min
    obtain ⟨h1, h3⟩ := qq_if_some2 hs
    cases h3
    simp only [qq_ok9, Bool.and_eq_true] at hok
    exact va_mmin hx hb hsz.symm hown (is_word hF hok.1.1.1 rfl) (is_word hF hok.1.1.2 rfl) (is_word hF hok.1.2 rfl) (is_word hF hok.2 rfl) hf (by rw [rv_cats]; omega) (by omega) (by omega) hd (k_same rfl rfl (kk H locs hP hlo))
  · -- Object's constructor
    obtain ⟨h1, h3⟩ := qq_if_some2 hs
    cases h3
    simp only [qq_ok9, Bool.and_eq_true] at hok
    exact so_obj hx hb hF hP hown h1.1 (is_word hF hok.1.1 rfl) (is_word hF hok.1.2 rfl) (is_word hF hok.2 rfl) hsz (by rw [rv_cats]; exact h1.2) hf (by omega) hd (k_same rfl rfl (kk H locs hP hlo))
  · -- a byte array's clone
    rename_i ix w1 w2 w3 w4 w5 w6 a st
    obtain ⟨h1, h3⟩ := qq_if_some2 hs
    cases h3
    simp only [qq_ok9, Bool.and_eq_true] at hok
    obtain ⟨⟨⟨⟨⟨g1, g2⟩, g3⟩, g4⟩, g5⟩, g6⟩ := hok
    have e1 : sz_S (cl_S σ a) - sz_S σ = 1 := by show sz_S σ + 1 - sz_S σ = 1; omega
    have e2 : su_S (cl_S σ a) - su_S σ = (kd_S σ a).2 := by show su_S σ + (kd_S σ a).2 - su_S σ = _; omega
    rw [e1] at hc
    rw [e2] at hsl
    exact so_clone hx hb hF hP hown h1.1.1 h1.1.2.1 h1.1.2.2 (is_word hF g1 rfl) (is_word hF g2 rfl) (is_word hF g3 rfl) (is_word hF g4 rfl) (is_word hF g5 rfl) (is_nw hF g6 rfl) hsz (by rw [rv_cats]; exact h1.2) hf hl hc hsl hd (fun H' u1 => k_to (by rw [e1]) (by rw [e2]) (kk H' locs u1 hlo))
  · -- a cast to a byte array
    rename_i ix w1 a st
    obtain ⟨h1, h3⟩ := qq_if_some2 hs
    cases h3
    simp only [qq_ok9] at hok
    exact so_castB hx hb hF hP hown h1.1 h1.2 (is_word hF hok rfl) hd (k_same rfl rfl (kk H locs hP hlo))
  · cases hs
end QG9
