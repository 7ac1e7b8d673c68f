/-! ROWS OF ROWS, COPIES, Object's CONSTRUCTOR -/
theorem vo_outer (c : ClassId) (N h0 : Nat) : ∀ i : Nat, Jvm.Free.Multi.outerC c N h0 i = arrV c N (fun j => if j < i then .ref (h0 + 1 + j) else .null)
  | 0 => by
    show ({ cls := c, slots := Array.replicate N .null, vm := .none } : Cell) = _
    rw [arrV_new]
    exact congrArg (arrV c N) (funext fun j => by simp)
  | i + 1 => by
    show (Jvm.Free.Multi.outerC c N h0 i).setSlot i (.ref (h0 + 1 + i)) = _
    rw [vo_outer c N h0 i, arrV_store]
    refine congrArg (arrV c N) (funext fun j => ?_)
    by_cases e : j = i
    · subst e; simp [updV]
    · by_cases h : j < i
      · simp [updV, e, h, Nat.lt_succ_of_lt h]
      · simp [updV, e, h, show ¬ j < i + 1 by omega]
theorem cl_arr {c : ClassId} {n : Nat} {F G : Nat → Value} (h : ∀ j, j < n → F j = G j) : arrV c n F = arrV c n G := by
  show ({ cls := c, slots := Array.ofFn (n := n) fun j => F j.val, vm := .none } : Cell) = ({ cls := c, slots := Array.ofFn (n := n) fun j => G j.val, vm := .none } : Cell)
  have e : (fun j : Fin n => F j.val) = fun j : Fin n => G j.val := funext fun j => h j.val j.isLt
  rw [e]
section QHM
variable {p : Program} {l : Launch} {e : Env} {R : Room} {s : State} {m : MethodId} {args : Array Value} {below : List Frame} {meth : Method} {c : Code} {H : Heap} {locs : List Loc} {cells slots : Nat} {Q : State → Prop}
variable {cc : ByteArray} {pc : Nat} {ls : Array Slot} {rest : List Value} {X : qq_X} {σ : qq_S}
theorem so_obj (hx : p.tables.exec = Jvm.exec) (hb : c.code = cc) (hF : qq_Fx X s) (hP : qq_Hp X σ H) {own : String} (hown : s.vm.findClass own = some m.cls) {a ix : Nat} (hk : (kd_S σ a).1 < 200) (hlink : (Cond.methodLink own ix Lib.objectInit).before args s = true) (hinst : (Cond.instanceMethod Lib.objectInit).before args s = true) (hcode : (Cond.code Lib.objectInit ⟨#[0xb1]⟩ 1 none).before args s = true)
    (hsz : ls.size = c.maxLocals) (hcat : (rest.map fun v => v.category).sum ≤ 8) (hf : 1 ≤ R.frames) (hl : 20 ≤ R.locals) (hd : decode cc pc = .ok (.invokespecial ix, 3))
    (kk : W p l e R s m args below meth c H locs cells slots Q (F0 m (pc + 3) ls rest)) : W p l e R s m args below meth c H locs cells slots Q (F0 m pc ls (rv_ X (.ref a) :: rest)) := by
  obtain ⟨w, h1, -⟩ := hp_ref hF hP hk
  have e1 : rv_ X (.ref a) = .ref w := by simp only [rv_, h1]; rfl
  rw [e1]
  exact W.objInit hx hb hown hlink hinst hcode rfl hsz rfl hd hf (by show 2 * 0 + _ + _ ≤ _; omega) kk
theorem cp_val (σ : qq_S) (a sp b dp n : Nat) (ty : FieldType) (x k : Nat) (h : x ≠ b) : qq_val (cp_S σ a sp b dp n) ty x k = qq_val σ ty x k := by
  have e : rd_I (cp_S σ a sp b dp n) x k = rd_I σ x k := if_neg (fun q => h q.1)
  cases ty <;> simp only [qq_val, e] <;> rfl
theorem so_copy (hx : p.tables.exec = Jvm.exec) (hb : c.code = cc) (hF : qq_Fx X s) (hP : qq_Hp X σ H) (hlo : ∀ z ∈ locs, xb_ X ≤ z.base) {own : String} (hown : s.vm.findClass own = some m.cls) {a b t ix : Nat} (hka : (kd_S σ a).1 = t) (hkb : (kd_S σ b).1 = t) (ht : t = 100 ∨ t = 102) (hK : qq_K0 ≤ b)
    {sp dp n : Int32} (h1 : ¬ sp < 0) (h2 : ¬ dp < 0) (h3 : ¬ n < 0) (h4 : sp.toNatClampNeg + n.toNatClampNeg ≤ (kd_S σ a).2) (h5 : dp.toNatClampNeg + n.toNatClampNeg ≤ (kd_S σ b).2)
    (hfit : t = 102 → ∀ i, i < n.toNatClampNeg → fits .byte (.int (rd_I σ a (sp.toNatClampNeg + i))) = true)
    (hlink : (Cond.methodLink own ix arraycopyName).before args s = true) (hnat : (Cond.native arraycopyName).before args s = true) (hstat : (Cond.static arraycopyName).before args s = true) (hini : (Cond.initialized "java/lang/System").before args s = true)
    (hsz : ls.size = c.maxLocals) (hcat : (rest.map fun v => v.category).sum ≤ 8) (hf : 1 ≤ R.frames) (hl : 60 ≤ R.locals) (hd : decode cc pc = .ok (.invokestatic ix, 3))
    (kk : ∀ (H' : Heap) (locs' : List Loc), qq_Hp X (cp_S σ a sp.toNatClampNeg b dp.toNatClampNeg n.toNatClampNeg) H' → (∀ z ∈ locs', xb_ X ≤ z.base) → W p l e R s m args below meth c H' locs' cells slots Q (F0 m (pc + 3) ls rest)) :
    W p l e R s m args below meth c H locs cells slots Q (F0 m pc ls (.int n :: .int dp :: rv_ X (.ref b) :: .int sp :: rv_ X (.ref a) :: rest)) := by
  have hat : qq_at t = true := by rcases ht with rfl | rfl <;> rfl
  have hprim : refKind (qq_et t) = false := by rcases ht with rfl | rfl <;> rfl
  have hint : ∀ x k, qq_val σ (qq_et t) x k = .int (rd_I σ x k) := by rcases ht with rfl | rfl <;> exact fun _ _ => rfl
  have hint2 : ∀ x k, qq_val (cp_S σ a sp.toNatClampNeg b dp.toNatClampNeg n.toNatClampNeg) (qq_et t) x k = .int (rd_I (cp_S σ a sp.toNatClampNeg b dp.toNatClampNeg n.toNatClampNeg) x k) := by rcases ht with rfl | rfl <;> exact fun _ _ => rfl
  obtain ⟨q, a1, cs, a2, a3, a4, a5, a6, a7⟩ := hp_ar hF hP hka hat
  obtain ⟨hlb, b2⟩ := hp_own hP hkb hat hK
  have e1 : rv_ X (.ref a) = .ref q := by simp only [rv_, a1]; rfl
  have e2 : rv_ X (.ref b) = .ref (xb_ X + (b - qq_K0)) := by simp only [rv_, ro_own hK]; rfl
  rw [e1, e2]
  have nn : ∀ z : Int32, ¬ z < 0 → z.toInt = (z.toNatClampNeg : Int) := by
    intro z hz
    have hz0 : (0 : Int) ≤ z.toInt := by
      have := Int32.not_lt.mp hz
      simpa using Int32.le_iff_toInt_le.mp this
    show z.toInt = ((z.toInt.toNat : Nat) : Int)
    omega
  obtain ⟨-, k0, hk0, cm0, hkk0⟩ := a3
  obtain ⟨-, k1, hk1, cm1, hkk1⟩ := (hF.2.2.2.1 t hat).1 (kd_S σ b).2 (fun j => rv_ X (qq_val σ (qq_et t) b j))
  intro T hT Xs
  have hfv : ∀ i, i < n.toNatClampNeg → cs.slots.getD (sp.toNatClampNeg + i) .null = .int (rd_I σ a (sp.toNatClampNeg + i)) := by
    intro i hi
    have := a7 (sp.toNatClampNeg + i) (by omega)
    dsimp only at this
    rw [hint] at this
    rw [Array.getD_eq_getD_getElem?, this]
    rfl
  have hnw : nativeFrameWords "java/lang/System" "arraycopy" 5 ≤ 40 := by decide +kernel
  obtain ⟨vm', X', step⟩ := Xs.arraycopy hx hown hlink hnat hstat hini (src := q) (dst := xb_ X + (b - qq_K0)) (cs := cs) (cd := arrV (X.2.2.1 t) (kd_S σ b).2 (fun j => rv_ X (qq_val σ (qq_et t) b j))) (srcPos := sp) (destPos := dp) (n := n) (by rw [hT]; exact a2) (by rw [hT]; exact b2)
    (fun _ h => by rw [h] at a5; cases a5) (fun _ h => by cases h) a4 (fun h => by cases h) hk0 hk1 hkk0 hkk1 (by simp [hprim]) h1 h2 h3
    (by rw [nn sp h1, nn n h3, a6]; omega)
    (by rw [nn dp h2, nn n h3, arrV_size]; omega)
    (fun vm₁ _ i hi => by
      rw [hfv i hi]
      refine ⟨?_, trivial⟩
      rcases ht with rfl | rfl
      · rfl
      · exact hfit rfl i hi)
    (g := F0 m pc ls (.int n :: .int dp :: .ref (xb_ X + (b - qq_K0)) :: .int sp :: .ref q :: rest)) rfl hsz (rest := rest) rfl (by rw [hb]; exact hd) hf (by show 2 * 0 + _ + _ ≤ _; omega)
  have ecd : (arrV (X.2.2.1 t) (kd_S σ b).2 (fun j => rv_ X (qq_val σ (qq_et t) b j))) = arrV (X.2.2.1 t) (kd_S σ b).2 (fun j => .int (rd_I σ b j)) := congrArg (arrV _ _) (funext fun j => by rw [hint]; rfl)
  have ecp : copied cs (arrV (X.2.2.1 t) (kd_S σ b).2 (fun j => rv_ X (qq_val σ (qq_et t) b j))) sp dp n = arrV (X.2.2.1 t) (kd_S σ b).2 (fun j => rv_ X (qq_val (cp_S σ a sp.toNatClampNeg b dp.toNatClampNeg n.toNatClampNeg) (qq_et t) b j)) := by
    rw [ecd]
    refine (va_copiedX (fun z => .int z) cs (X.2.2.1 t) (fun j => rd_I σ a j) (fun j => rd_I σ b j) (fun j hj => by have := a7 j hj; dsimp only at this; rw [hint] at this; exact this) h4).trans (congrArg (arrV _ _) (funext fun j => ?_))
    rw [hint2]
    show Value.int (va_cpy _ _ _ _ _ j) = Value.int _
    refine congrArg Value.int ?_
    by_cases h : dp.toNatClampNeg ≤ j ∧ j < dp.toNatClampNeg + n.toNatClampNeg
    · simp [va_cpy, rd_I, cp_S, h]
    · simp [va_cpy, rd_I, cp_S, h]
  rw [ecp] at X' step
  have hl2 : xb_ X + (b - qq_K0) < H.size := (Array.getElem?_eq_some_iff.mp b2).1
  have hend : qq_Hp X (cp_S σ a sp.toNatClampNeg b dp.toNatClampNeg n.toNatClampNeg) (H.setIfInBounds (xb_ X + (b - qq_K0)) (arrV (X.2.2.1 t) (kd_S σ b).2 (fun j => rv_ X (qq_val (cp_S σ a sp.toNatClampNeg b dp.toNatClampNeg n.toNatClampNeg) (qq_et t) b j)))) := by
    obtain ⟨t1, t2, t3⟩ := qq_at_no hat
    refine hp_put hP hK hlb (fun _ => rfl) rfl (fun x hx ty k => cp_val σ a _ b _ _ ty x k hx) ?_ (by simp) (fun z hz => by simp [Array.getElem?_setIfInBounds, Ne.symm hz])
    rw [qq_Ce, show kd_S (cp_S σ a sp.toNatClampNeg b dp.toNatClampNeg n.toNatClampNeg) b = kd_S σ b from rfl, hkb, if_neg (by omega), if_pos (by omega)]
    exact ⟨hat, by simp [Array.getElem?_setIfInBounds, hl2]⟩
  obtain ⟨t9, a1, b1⟩ := kk _ _ hend (fun z hz => by
    rcases List.mem_append.mp hz with h | h
    · exact hlo z h
    · obtain ⟨y, -, hy⟩ := List.mem_map.mp h
      rw [← hy]
      exact Nat.le_add_right _ _) _ (show ((T.setVm vm').setCell _ _).heap = _ by rw [← hT]; rfl) X'
  exact ⟨t9, step t9 a1, b1⟩
theorem so_mna (hx : p.tables.exec = Jvm.exec) (hb : c.code = cc) (hF : qq_Fx X s) (hP : qq_Hp X σ H) {own : String} (hown : s.vm.findClass own = some m.cls) {ix : Nat} (hw : (Cond.classLink own ix "[[I").before args s = true) (hw2 : (Cond.arrayOver (.array .int)).before args s = true) (hw3 : (Cond.arrayClass .int).before args s = true)
    {n k : Int32} (hn0 : ¬ n < 0) (hn : n.toNatClampNeg ≤ 65536) (hk0 : ¬ k < 0) (hk : k.toNatClampNeg ≤ 65536)
    (hc : cells + (1 + n.toNatClampNeg) ≤ R.cells) (hs : slots + (n.toNatClampNeg + n.toNatClampNeg * k.toNatClampNeg) ≤ R.slots) (hd : decode cc pc = .ok (.multianewarray ix 2, 4))
    (kk : ∀ H' : Heap, qq_Hp X (gr_S (nw_S (nw_S σ 1 (110, n.toNatClampNeg) n.toNatClampNeg) n.toNatClampNeg (100, k.toNatClampNeg) (n.toNatClampNeg * k.toNatClampNeg)) (sz_S σ) n.toNatClampNeg) H' →
      W p l e R s m args below meth c H' locs (cells + 1 + n.toNatClampNeg) (slots + n.toNatClampNeg + n.toNatClampNeg * k.toNatClampNeg) Q (F0 m (pc + 4) ls (rv_ X (.ref (sz_S σ)) :: rest))) : W p l e R s m args below meth c H locs cells slots Q (F0 m pc ls (.int k :: .int n :: rest)) := by
  have e1 : rv_ X (.ref (sz_S σ)) = .ref H.size := by
    simp only [rv_, ro_own hP.1]
    rw [hP.2.1]; rfl
  rw [e1] at kk
  intro T hT Xs
  obtain ⟨vm₁, cA, comp, -, fA, fC, -, -, X', step⟩ := Xs.multianewarray2F hx hown (ty := .int) hw hw2 hw3 (g := F0 m pc ls (.int k :: .int n :: rest)) rfl (by rw [hb]; exact hd) rfl hn0 hk0 (by omega) (by rw [show componentBytes FieldType.int = 4 from rfl]; omega) (by omega) rfl rfl hc hs
  generalize hF9 : Jvm.Free.Multi.fill (T.setVm vm₁) cA comp n.toNatClampNeg k.toNatClampNeg (defaultValue .int) n.toNatClampNeg = F9 at X' step
  have hTh : (T.setVm vm₁).heap = H := hT
  obtain ⟨f1, f2, -, -⟩ := Jvm.Free.Multi.fill_facts (T.setVm vm₁) cA comp n.toNatClampNeg k.toNatClampNeg (defaultValue .int) n.toNatClampNeg
  rw [hF9, hTh] at f1 f2
  have hold : ∀ x : Nat, x < H.size → F9.heap[x]? = H[x]? := fun x hx => by
    have := Jvm.Free.Multi.fill_old (T.setVm vm₁) cA comp n.toNatClampNeg k.toNatClampNeg (defaultValue .int) (a := x) (by rw [hTh]; exact hx) n.toNatClampNeg
    rw [hF9, hTh] at this
    exact this
  have hrow : ∀ j : Nat, j < n.toNatClampNeg → F9.heap[H.size + 1 + j]? = some (arrV comp k.toNatClampNeg (fun _ => .int 0)) := fun j hj => by
    have := Jvm.Free.Multi.fill_inner (T.setVm vm₁) cA comp n.toNatClampNeg k.toNatClampNeg (defaultValue .int) n.toNatClampNeg j hj
    rw [hF9, hTh] at this
    rw [this]
    exact congrArg some (arrV_new _ _ _)
  rw [vo_outer] at f2
  have hcA : X.2.2.1 110 = cA := Option.some.inj ((show s.vm.findClass "[[I" = some (X.2.2.1 110) from (hF.2.2.2.1 110 rfl).2).symm.trans fA)
  have hcI : X.2.2.1 100 = comp := Option.some.inj ((show s.vm.findClass "[I" = some (X.2.2.1 100) from (hF.2.2.2.1 100 rfl).2).symm.trans fC)
  have hT2 : qq_Hp X (gr_S (nw_S (nw_S σ 1 (110, n.toNatClampNeg) n.toNatClampNeg) n.toNatClampNeg (100, k.toNatClampNeg) (n.toNatClampNeg * k.toNatClampNeg)) (sz_S σ) n.toNatClampNeg) F9.heap := by
    obtain ⟨h0, hz, hq, hno, hco, ho⟩ := hP
    generalize hN : n.toNatClampNeg = N at *
    generalize hM : k.toNatClampNeg = M at *
    generalize hσ' : gr_S (nw_S (nw_S σ 1 (110, N) N) N (100, M) (N * M)) (sz_S σ) N = σ'
    have hs : sz_S σ' = sz_S σ + 1 + N := by rw [← hσ']; rfl
    have hkO : ∀ b, b < sz_S σ ∨ sz_S σ + 1 + N ≤ b → kd_S σ' b = kd_S σ b := by
      intro b hb
      rw [← hσ']
      show (if sz_S σ + 1 ≤ b ∧ b < sz_S σ + 1 + N then (100, M) else if sz_S σ ≤ b ∧ b < sz_S σ + 1 then (110, N) else kd_S σ b) = _
      rw [if_neg (by omega), if_neg (by omega)]
    have hk1 : kd_S σ' (sz_S σ) = (110, N) := by
      rw [← hσ']
      show (if sz_S σ + 1 ≤ sz_S σ ∧ sz_S σ < sz_S σ + 1 + N then (100, M) else if sz_S σ ≤ sz_S σ ∧ sz_S σ < sz_S σ + 1 then (110, N) else kd_S σ (sz_S σ)) = _
      rw [if_neg (by omega), if_pos (by omega)]
    have hk2 : ∀ j, j < N → kd_S σ' (sz_S σ + 1 + j) = (100, M) := by
      intro j hj
      rw [← hσ']
      show (if sz_S σ + 1 ≤ sz_S σ + 1 + j ∧ sz_S σ + 1 + j < sz_S σ + 1 + N then (100, M) else _) = _
      rw [if_pos (by omega)]
    have hv : ∀ b, b < sz_S σ → ∀ ty k, qq_val σ' ty b k = qq_val σ ty b k := by
      intro b hb ty k
      have e1 : rd_I σ' b k = rd_I σ b k := by rw [← hσ']; show (if sz_S σ + 1 ≤ b ∧ b < sz_S σ + 1 + N then _ else if sz_S σ ≤ b ∧ b < sz_S σ + 1 then _ else σ.1 b k) = _; rw [if_neg (by omega), if_neg (by omega)]; rfl
      have e2 : rd_R σ' b k = rd_R σ b k := by rw [← hσ']; show (if b = sz_S σ ∧ k < N then _ else if sz_S σ + 1 ≤ b ∧ b < sz_S σ + 1 + N then _ else if sz_S σ ≤ b ∧ b < sz_S σ + 1 then _ else σ.2.1 b k) = _; rw [if_neg (by omega), if_neg (by omega), if_neg (by omega)]; rfl
      have e3 : rd_L σ' b k = rd_L σ b k := by rw [← hσ']; show (if sz_S σ + 1 ≤ b ∧ b < sz_S σ + 1 + N then _ else if sz_S σ ≤ b ∧ b < sz_S σ + 1 then _ else σ.2.2.1 b k) = _; rw [if_neg (by omega), if_neg (by omega)]; rfl
      have e4 : rd_D σ' b k = rd_D σ b k := by rw [← hσ']; show (if sz_S σ + 1 ≤ b ∧ b < sz_S σ + 1 + N then _ else if sz_S σ ≤ b ∧ b < sz_S σ + 1 then _ else σ.2.2.2.1 b k) = _; rw [if_neg (by omega), if_neg (by omega)]; rfl
      cases ty <;> simp only [qq_val, e1, e2, e3, e4]
    refine ⟨by rw [hs]; omega, by rw [hs, f1, hz]; omega, fun q hq' => by rw [hold q (by omega)]; exact hq q hq', fun b hb => by rw [hkO b (by omega)]; exact hno b (by omega), fun b hb => Co_same (hkO b (by omega)) (hv b (by omega)) (hco b hb), fun b hb hb2 => ?_⟩
    by_cases h1 : b < sz_S σ
    · exact Ce_same (hkO b (Or.inl h1)) (hv b h1) (hold _ (by omega)) (ho b hb h1)
    · by_cases h2 : b = sz_S σ
      · subst h2
        rw [qq_Ce, hk1]
        dsimp only
        rw [if_neg (by decide), if_pos (by decide)]
        refine ⟨rfl, ?_⟩
        rw [← hz, f2, hcA]
        refine congrArg some (congrArg (arrV _ _) (funext fun j => ?_))
        have e2 : rd_R σ' (sz_S σ) j = if j < N then sz_S σ + 1 + j else 0 := by
          rw [← hσ']
          show (if sz_S σ = sz_S σ ∧ j < N then _ else if sz_S σ + 1 ≤ sz_S σ ∧ sz_S σ < sz_S σ + 1 + N then _ else if sz_S σ ≤ sz_S σ ∧ sz_S σ < sz_S σ + 1 then 0 else _) = _
          by_cases hj : j < N
          · rw [if_pos ⟨rfl, hj⟩, if_pos hj]
          · rw [if_neg (by omega), if_neg (by omega), if_pos (by omega), if_neg hj]
        show _ = rv_ X (.ref (rd_R σ' (sz_S σ) j))
        rw [e2]
        by_cases hj : j < N
        · rw [if_pos hj, if_pos hj]
          simp only [rv_, ro_own (show qq_K0 ≤ sz_S σ + 1 + j by omega)]
          show Value.ref (H.size + 1 + j) = Value.ref (xb_ X + (sz_S σ + 1 + j - qq_K0))
          have e9 : H.size + 1 + j = xb_ X + (sz_S σ + 1 + j - qq_K0) := by rw [hz]; omega
          rw [e9]
        · rw [if_neg hj, if_neg hj]
          simp only [rv_, ro_con (show 0 < qq_K0 by decide), hF.2.2.2.2.2.2.2.2.2.2.1]
          rfl
      · obtain ⟨j, hj, rfl⟩ : ∃ j, j < N ∧ b = sz_S σ + 1 + j := ⟨b - (sz_S σ + 1), by omega, by omega⟩
        rw [qq_Ce, hk2 j hj]
        dsimp only
        rw [if_neg (by decide), if_pos (by decide)]
        refine ⟨rfl, ?_⟩
        rw [show xb_ X + (sz_S σ + 1 + j - qq_K0) = H.size + 1 + j by rw [hz]; omega, hrow j hj, hcI]
        refine congrArg some (congrArg (arrV _ _) (funext fun i => ?_))
        have e1 : rd_I σ' (sz_S σ + 1 + j) i = 0 := by
          rw [← hσ']
          show (if sz_S σ + 1 ≤ sz_S σ + 1 + j ∧ sz_S σ + 1 + j < sz_S σ + 1 + N then 0 else _) = _
          rw [if_pos (by omega)]
        show Value.int 0 = rv_ X (.int (rd_I σ' (sz_S σ + 1 + j) i))
        rw [e1]; rfl
  rw [show T.heap.size = H.size by rw [hT]] at step
  obtain ⟨t9, a1, b1⟩ := kk F9.heap hT2 F9 rfl X'
  exact ⟨t9, step t9 a1, b1⟩
theorem cl_grow {σ : qq_S} {a : Nat} : sz_S σ ≤ sz_S (cl_S σ a) ∧ su_S σ ≤ su_S (cl_S σ a) := ⟨Nat.le_succ _, Nat.le_add_right _ _⟩
theorem so_clone (hx : p.tables.exec = Jvm.exec) (hb : c.code = cc) (hF : qq_Fx X s) (hP : qq_Hp X σ H) {own : String} (hown : s.vm.findClass own = some m.cls) {a ix : Nat} (hk : (kd_S σ a).1 = 102) (ha : qq_K0 ≤ a) (hfit : ∀ i, i < (kd_S σ a).2 → fits .byte (.int (rd_I σ a i)) = true)
    (hlink : (Cond.methodLink own ix ⟨"[B", "clone", "()Ljava/lang/Object;"⟩).before args s = true) (hsame : (Cond.sameMethod "[B" "java/lang/Object" "clone" "()Ljava/lang/Object;").before args s = true)
    (hnat : (Cond.native ⟨"java/lang/Object", "clone", "()Ljava/lang/Object;"⟩).before args s = true) (hinst : (Cond.instanceMethod ⟨"java/lang/Object", "clone", "()Ljava/lang/Object;"⟩).before args s = true)
    (hsel : (Cond.selects "[B" ⟨"[B", "clone", "()Ljava/lang/Object;"⟩ ⟨"java/lang/Object", "clone", "()Ljava/lang/Object;"⟩).before args s = true) (hcl : va_Nw (.castable "[B" "java/lang/Cloneable") s)
    (hsz : ls.size = c.maxLocals) (hcat : (rest.map fun v => v.category).sum ≤ 8) (hf : 1 ≤ R.frames) (hl : 60 ≤ R.locals) (hc : cells + 1 ≤ R.cells) (hs : slots + (kd_S σ a).2 ≤ R.slots) (hd : decode cc pc = .ok (.invokevirtual ix, 3))
    (kk : ∀ H' : Heap, qq_Hp X (cl_S σ a) H' → W p l e R s m args below meth c H' locs (cells + 1) (slots + (kd_S σ a).2) Q (F0 m (pc + 3) ls (rv_ X (.ref (sz_S σ)) :: rest))) : W p l e R s m args below meth c H locs cells slots Q (F0 m pc ls (rv_ X (.ref a) :: rest)) := by
  obtain ⟨hla, hcell⟩ := hp_own hP hk rfl ha
  have e1 : rv_ X (.ref a) = .ref (xb_ X + (a - qq_K0)) := by simp only [rv_, ro_own ha]; rfl
  have e2 : rv_ X (.ref (sz_S σ)) = .ref H.size := by
    simp only [rv_, ro_own hP.1]
    rw [hP.2.1]; rfl
  rw [e1]
  rw [e2] at kk
  have hnm : s.vm.findClass "[B" = some (X.2.2.1 102) := va_nm_byte (hF.2.2.2.1 102 rfl).2
  obtain ⟨c0, t0', f1, f2, f3⟩ := Cond.castable_spec (va_Nw.use (A := args) rfl hcl)
  cases hnm.symm.trans f1
  generalize hV : (fun j => rv_ X (qq_val σ (qq_et 102) a j)) = V at hcell
  have hVf : ∀ i, i < (kd_S σ a).2 → fits .byte (V i) = true := fun i hi => by rw [← hV]; exact hfit i hi
  intro T hT Xs
  have hcellT : T.heap[xb_ X + (a - qq_K0)]? = some (arrV (X.2.2.1 102) (kd_S σ a).2 V) := by rw [hT]; exact hcell
  obtain ⟨-, kA, hkA, comp, hkind⟩ := State.isArrayOf_alike Xs.warmed.alike ((hF.2.2.2.1 102 rfl).1 0 (fun _ => .null))
  obtain ⟨-, kS, hkS, compS, hkindS⟩ := (hF.2.2.2.1 102 rfl).1 0 (fun _ => .null)
  obtain ⟨vm', X', st⟩ := Xs.cloneArray hx hown hlink hsame hnat hinst hsel (a := xb_ X + (a - qq_K0)) (cell := arrV (X.2.2.1 102) (kd_S σ a).2 V) hcellT (fun k h => by cases h) (fun h => by cases h) hnm f2 f3
    (fun i v hv => by
      have hk' : T.vm.classes[X.2.2.1 102]? = some kA := hkA
      have h9 : fits (qq_et 102) v = true := va_fit hVf i v hv
      rw [show (arrV (X.2.2.1 102) (kd_S σ a).2 V).cls = X.2.2.1 102 from rfl]
      simpa [State.fitsSlot, State.slotType?, hk', hkind] using h9)
    (g := F0 m pc ls (.ref (xb_ X + (a - qq_K0)) :: rest)) rfl hsz rfl (by rw [hb]; exact hd) hf (by show 2 * 0 + _ + 14 ≤ _; omega) hc (by rw [arrV_size]; exact hs) (hloader := Vm.clonesLoader_of_array hkS hkindS)
  have hcellE : ({ cls := (arrV (X.2.2.1 102) (kd_S σ a).2 V).cls, slots := (arrV (X.2.2.1 102) (kd_S σ a).2 V).slots } : Cell) = arrV (X.2.2.1 102) (kd_S σ a).2 V := rfl
  rw [hcellE, arrV_size] at X'
  -- first a new array, then what it holds
  have hz2 : xb_ X + (sz_S σ - qq_K0) = H.size := hP.2.1.symm
  have hK0 := hP.1
  have h1 : qq_Hp X (nw_S σ 1 (102, (kd_S σ a).2) (kd_S σ a).2) (H.push (arrV (X.2.2.1 102) (kd_S σ a).2 (fun _ => .int 0))) := by
    refine hp_new hP (102, (kd_S σ a).2) (kd_S σ a).2 (by rw [Array.size_push]) (fun q hq => by rw [Array.getElem?_push, if_neg (Nat.ne_of_lt hq)]) ?_
    have hkd : kd_S (nw_S σ 1 (102, (kd_S σ a).2) (kd_S σ a).2) (sz_S σ) = (102, (kd_S σ a).2) := if_pos ⟨Nat.le_refl _, Nat.lt_succ_self _⟩
    rw [qq_Ce, hkd]
    dsimp only
    rw [if_neg (by decide), if_pos (by decide)]
    refine ⟨rfl, ?_⟩
    rw [hz2, Array.getElem?_push_size]
    refine congrArg some (congrArg (arrV _ _) (funext fun j => ?_))
    rw [nw_val σ (102, (kd_S σ a).2) (kd_S σ a).2 (qq_et 102) j 0]
    rfl
  have h2 : qq_Hp X (cl_S σ a) (H.push (arrV (X.2.2.1 102) (kd_S σ a).2 V)) := by
    refine hp_put h1 hK0 (by show sz_S σ < sz_S σ + 1; omega) (fun _ => rfl) rfl (fun x hx ty k => cp_val _ a _ (sz_S σ) _ _ ty x k hx) ?_ (by rw [Array.size_push, Array.size_push]) (fun z hz => ?_)
    · have hkd : kd_S (cl_S σ a) (sz_S σ) = (102, (kd_S σ a).2) := if_pos ⟨Nat.le_refl _, Nat.lt_succ_self _⟩
      rw [qq_Ce, hkd]
      dsimp only
      rw [if_neg (by decide), if_pos (by decide)]
      refine ⟨rfl, ?_⟩
      rw [hz2, Array.getElem?_push_size]
      refine congrArg some (cl_arr fun j hj => ?_)
      rw [← hV]
      show rv_ X (.int (rd_I σ a j)) = rv_ X (.int (rd_I (cl_S σ a) (sz_S σ) j))
      have : rd_I (cl_S σ a) (sz_S σ) j = rd_I σ a j := by
        show (if sz_S σ = sz_S σ ∧ 0 ≤ j ∧ j < 0 + (kd_S σ a).2 then (if sz_S σ ≤ a ∧ a < sz_S σ + 1 then (0 : Int32) else σ.1 a (0 + (j - 0))) else _) = _
        rw [if_pos ⟨rfl, Nat.zero_le _, by omega⟩, if_neg (by omega), Nat.zero_add, Nat.sub_zero]
        rfl
      rw [this]
    · have hz' : z ≠ H.size := by rw [← hz2]; exact hz
      rw [Array.getElem?_push, Array.getElem?_push, if_neg hz', if_neg hz']
  obtain ⟨t, b1, b2⟩ := kk _ h2 ((T.setVm vm').pushCell (arrV (X.2.2.1 102) (kd_S σ a).2 V)) (by rw [← hT]; rfl) X'
  refine ⟨t, st t ?_, b2⟩
  rw [hcellE, hT]
  exact b1
theorem so_castB (hx : p.tables.exec = Jvm.exec) (hb : c.code = cc) (hF : qq_Fx X s) (hP : qq_Hp X σ H) {own : String} (hown : s.vm.findClass own = some m.cls) {a ix : Nat} (hk : (kd_S σ a).1 = 102) (ha : qq_K0 ≤ a)
    (hlink : (Cond.classLink own ix "[B").before args s = true) (hd : decode cc pc = .ok (.checkcast ix, 3))
    (kk : W p l e R s m args below meth c H locs cells slots Q (F0 m (pc + 3) ls (rv_ X (.ref a) :: rest))) : W p l e R s m args below meth c H locs cells slots Q (F0 m pc ls (rv_ X (.ref a) :: rest)) := by
  obtain ⟨hla, hcell⟩ := hp_own hP hk rfl ha
  have e1 : rv_ X (.ref a) = .ref (xb_ X + (a - qq_K0)) := by simp only [rv_, ro_own ha]; rfl
  rw [e1] at kk ⊢
  have hnm : s.vm.findClass "[B" = some (X.2.2.1 102) := va_nm_byte (hF.2.2.2.1 102 rfl).2
  intro T hT Xs
  obtain ⟨vm', X', st⟩ := Xs.checkcastYes hx hown hlink (by rw [hT]; exact hcell) rfl hnm (va_asg _ _) (g := F0 m pc ls (.ref (xb_ X + (a - qq_K0)) :: rest)) rfl rfl (by rw [hb]; exact hd)
  obtain ⟨t, a1, b1⟩ := kk (T.setVm vm') hT X'
  exact ⟨t, st t a1, b1⟩
end QHM
