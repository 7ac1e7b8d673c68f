/-! FIELDS, STATICS, CONSTANTS, NEW CELLS -/
def qq_layw (c k : Nat) : Nat := (qq_lay.getD c []).getD k 0
theorem qq_lay_ok : ((List.range 13).all fun c => c == 1 || (match qq_cl[c]? with | some q => (List.range q.2.2).all fun k => (decide (qq_tbl[qq_layw c k]? = some (u_lay q.1 q.2.1 k)) && goodWord (u_lay q.1 q.2.1 k)) | none => false)) = true := by decide +kernel
theorem qq_ty_ok : ((List.range 13).all fun c => (match qq_cl[c]? with | some q => decide (q.2.2 = qq_nf c) && (List.range q.2.2).all fun k => (decide (parseFieldDescriptor (q.2.1 k).2.2.1 = some (qq_ty c k)) && (List.range q.2.2).all fun j => (decide (j = k) || decide ((q.2.1 j).2.1 ≠ (q.2.1 k).2.1))) | none => false)) = true := by decide +kernel
theorem cl_lt {c : Nat} {q : vw_C} (h : qq_cl[c]? = some q) : c < 13 := (List.getElem?_eq_some_iff.mp h).1
theorem lay_at {X : qq_X} {U : State} (hF : qq_Fx X U) {c : Nat} {q : vw_C} (hq : qq_cl[c]? = some q) (hc : c ≠ 1) {k : Nat} (hk : k < q.2.2) {a' : Array Value} : (u_lay q.1 q.2.1 k).before a' U = true := by
  have h := List.all_eq_true.mp qq_lay_ok c (List.mem_range.mpr (cl_lt hq))
  simp only [hq, Bool.or_eq_true, beq_iff_eq, hc, false_or] at h
  have h2 := List.all_eq_true.mp h k (List.mem_range.mpr hk)
  simp only [Bool.and_eq_true, decide_eq_true_eq] at h2
  exact Fx_word hF h2.1 h2.2
theorem ty_at {c : Nat} {q : vw_C} (hq : qq_cl[c]? = some q) : q.2.2 = qq_nf c ∧ ∀ k, k < q.2.2 → parseFieldDescriptor (q.2.1 k).2.2.1 = some (qq_ty c k) ∧ ∀ j, j < q.2.2 → j ≠ k → (q.2.1 j).2.1 ≠ (q.2.1 k).2.1 := by
  have h := List.all_eq_true.mp qq_ty_ok c (List.mem_range.mpr (cl_lt hq))
  simp only [hq, Bool.and_eq_true, decide_eq_true_eq] at h
  refine ⟨h.1, fun k hk => ?_⟩
  have h2 := List.all_eq_true.mp h.2 k (List.mem_range.mpr hk)
  simp only [Bool.and_eq_true, decide_eq_true_eq] at h2
  refine ⟨h2.1, fun j hj hjk => ?_⟩
  have h3 := List.all_eq_true.mp h2.2 j (List.mem_range.mpr hj)
  simp only [Bool.or_eq_true, decide_eq_true_eq] at h3
  exact h3.resolve_left hjk
theorem lay_or {X : qq_X} {U : State} (hF : qq_Fx X U) {c : Nat} {q : vw_C} (hq : qq_cl[c]? = some q) (hc : c ≠ 1) {k : Nat} (hk : k < q.2.2) {a' : Array Value} :
    (Cond.lays q.1 (q.2.1 k).1 (q.2.1 k).2.1 (q.2.1 k).2.2.1).before a' U = true ∨ (Cond.laysFinal q.1 (q.2.1 k).1 (q.2.1 k).2.1 (q.2.1 k).2.2.1).before a' U = true :=
  u_lays (ws := u_ws q.1 q.2.1 q.2.2) (args := a') (fun w hw => by
    obtain ⟨j, hj, rfl⟩ := List.mem_map.mp hw
    exact lay_at hF hq hc (List.mem_range.mp hj)) (fun w hw => hw) hk
/-- the slots of one class are apart -/
theorem slot_apart {X : qq_X} {U : State} (hF : qq_Fx X U) {c : Nat} {q : vw_C} (hq : qq_cl[c]? = some q) (hc : c ≠ 1) {x y : Nat} (hx : x < q.2.2) (hy : y < q.2.2) (hne : x ≠ y) : X.2.1 c x ≠ X.2.1 c y := by
  obtain ⟨-, hS⟩ := hF.2.2.1 c q hq
  obtain ⟨_, _, _, fa, hia, -, ea⟩ := hS x hx
  obtain ⟨_, _, _, fb, hib, -, eb⟩ := hS y hy
  rw [← ea, ← eb]
  refine u_apart (args := #[]) (lay_or hF hq hc hx) (lay_or hF hq hc hy) hia hib ?_
  rw [(State.fieldFound?_type hia ((ty_at hq).2 x hx).1).1, (State.fieldFound?_type hib ((ty_at hq).2 y hy).1).1]
  exact ((ty_at hq).2 y hy).2 x hx hne
/-- the classes that are made here are ordinary -/
theorem qq_ins_ok : ((List.range 13).all fun c => decide (c = 1) || (match qq_cl[c]? with | some q => decide (qq_tbl[qq_ins_w.getD c 0]? = some (.instantiable q.1 q.2.2)) | none => false)) = true := by decide +kernel
theorem qq_ord {X : qq_X} {U : State} (hF : qq_Fx X U) {c : Nat} {q : vw_C} (hq : qq_cl[c]? = some q) (hc : c ≠ 1) : ∃ kC : Class, U.vm.classes[X.1 c]? = some kC ∧ kC.kind = .ordinary ∧ (Cond.instantiable q.1 q.2.2).before #[] U = true := by
  have h := List.all_eq_true.mp qq_ins_ok c (List.mem_range.mpr (cl_lt hq))
  simp only [hq, Bool.or_eq_true, decide_eq_true_eq] at h
  have h1 := h.resolve_left (by omega)
  have h2 := Fx_word hF h1 (by rfl) (a' := #[])
  obtain ⟨cC, kC, g1, g2, g3, -⟩ := Cond.instantiable_spec h2
  cases g1.symm.trans (hF.2.2.1 c q hq).1
  exact ⟨kC, g2, g3, h2⟩
section QHF
variable {p : Program} {l : Launch} {e : Env} {R : Room} {s : State} {m : MethodId} {args : Array Value} {below : List Frame} {meth : Method} {c : Code} {H : Heap} {locs : List Loc} {cells slots : Nat} {Q : State → Prop}
variable {cc : ByteArray} {pc : Nat} {ls : Array Slot} {rest : List Value} {X : qq_X} {σ : qq_S}
theorem so_get (hx : p.tables.exec = Jvm.exec) (hb : c.code = cc) (hF : qq_Fx X s) (hP : qq_Hp X σ H) {own : String} (hown : s.vm.findClass own = some m.cls) {a ci k ix : Nat} {q : vw_C} (hq : qq_cl[ci]? = some q) (hk : (kd_S σ a).1 = ci) (hkn : k < qq_nr ci)
    (hlink : (Cond.fieldLink own ix (q.2.1 k).1 (q.2.1 k).2.1 (q.2.1 k).2.2.1).before args s = true ∨ ∃ host, (Cond.fieldLinkNest own ix (q.2.1 k).1 (q.2.1 k).2.1 (q.2.1 k).2.2.1 host).before args s = true) (hd : decode cc pc = .ok (.getfield ix, 3))
    (kk : W p l e R s m args below meth c H locs cells slots Q (F0 m (pc + 3) ls (rv_ X (qq_val σ (qq_ty ci k) a k) :: rest))) : W p l e R s m args below meth c H locs cells slots Q (F0 m pc ls (rv_ X (.ref a) :: rest)) := by
  have hc14 := cl_lt hq
  obtain ⟨w, h1, cell, h2, h3, h4, h5, h6⟩ := hp_ob hP hk (by omega)
  have e1 : rv_ X (.ref a) = .ref w := by simp only [rv_, h1]; rfl
  rw [e1]
  obtain ⟨cf, kf, fi, fd, g1, g2, g3⟩ := (hF.2.2.1 ci q hq).2 k (by rw [(ty_at hq).1]; exact Nat.lt_of_lt_of_le hkn nr_le)
  rcases hlink with hl | ⟨host, hl⟩
  · exact W.getf hx hb hown hl g1 g2 h2 h4 (by rw [g3]; exact h6 k hkn) rfl rfl hd kk
  · exact va_Wgetf hx hb hown hl g1 g2 h2 h4 (by rw [g3]; exact h6 k hkn) rfl rfl hd kk
theorem put_val {σ σ' : qq_S} {ty : FieldType} {a k : Nat} {v : Value} (h : qq_put σ ty a k v = some σ') :
    (∀ b, kd_S σ' b = kd_S σ b) ∧ sz_S σ' = sz_S σ ∧ su_S σ' = su_S σ ∧ (∀ b, b ≠ a → ∀ ty k, qq_val σ' ty b k = qq_val σ ty b k) ∧ (∀ ty' j, j ≠ k → qq_val σ' ty' a j = qq_val σ ty' a j) ∧ qq_val σ' ty a k = v ∧ ∀ X : qq_X, narrow ty (rv_ X v) = rv_ X v ∧ fits ty (rv_ X v) = true := by
  have hI : ∀ x, (∀ ty' j, j ≠ k → qq_val (wr_I σ a k x) ty' a j = qq_val σ ty' a j) := by
    intro x ty' j hj
    have e : rd_I (wr_I σ a k x) a j = rd_I σ a j := if_neg (fun q => hj q.2)
    cases ty' <;> simp only [qq_val, e] <;> rfl
  have hL : ∀ x, (∀ ty' j, j ≠ k → qq_val (wr_L σ a k x) ty' a j = qq_val σ ty' a j) := by
    intro x ty' j hj
    have e : rd_L (wr_L σ a k x) a j = rd_L σ a j := if_neg (fun q => hj q.2)
    cases ty' <;> simp only [qq_val, e] <;> rfl
  have hD : ∀ x, (∀ ty' j, j ≠ k → qq_val (wr_D σ a k x) ty' a j = qq_val σ ty' a j) := by
    intro x ty' j hj
    have e : rd_D (wr_D σ a k x) a j = rd_D σ a j := if_neg (fun q => hj q.2)
    cases ty' <;> simp only [qq_val, e] <;> rfl
  have hR : ∀ x, (∀ ty' j, j ≠ k → qq_val (wr_R σ a k x) ty' a j = qq_val σ ty' a j) := by
    intro x ty' j hj
    have e : rd_R (wr_R σ a k x) a j = rd_R σ a j := if_neg (fun q => hj q.2)
    cases ty' <;> simp only [qq_val, e] <;> rfl
  have hIs : ∀ x, rd_I (wr_I σ a k x) a k = x := fun x => if_pos ⟨rfl, rfl⟩
  have hLs : ∀ x, rd_L (wr_L σ a k x) a k = x := fun x => if_pos ⟨rfl, rfl⟩
  have hDs : ∀ x, rd_D (wr_D σ a k x) a k = x := fun x => if_pos ⟨rfl, rfl⟩
  have hRs : ∀ x, rd_R (wr_R σ a k x) a k = x := fun x => if_pos ⟨rfl, rfl⟩
  have hrf : ∀ (X : qq_X) (x : Nat), rv_ X (.ref x) = .null ∨ ∃ z, rv_ X (.ref x) = .ref z := by
    intro X x
    simp only [rv_]
    cases ro_ X x with
    | none => exact Or.inl rfl
    | some z => exact Or.inr ⟨z, rfl⟩
  cases ty <;> simp only [qq_put] at h <;> (try cases h) <;> cases v <;> (try cases h) <;> (try (obtain ⟨h1, h2⟩ := qq_if_some h; subst h2))
  all_goals first
    | exact ⟨fun _ => rfl, rfl, rfl, fun b hb ty k => val_up hb _ _ _ _, hI _, congrArg Value.int (hIs _), fun X => h1⟩
    | exact ⟨fun _ => rfl, rfl, rfl, fun b hb ty k => val_up hb _ _ _ _, hI _, congrArg Value.int (hIs _), fun X => ⟨rfl, rfl⟩⟩
    | exact ⟨fun _ => rfl, rfl, rfl, fun b hb ty k => val_upL hb _ _ _ _, hL _, congrArg Value.long (hLs _), fun X => ⟨rfl, rfl⟩⟩
    | exact ⟨fun _ => rfl, rfl, rfl, fun b hb ty k => val_upD hb _ _ _ _, hD _, congrArg Value.double (hDs _), fun X => ⟨rfl, rfl⟩⟩
    | exact ⟨fun _ => rfl, rfl, rfl, fun b hb ty k => val_upR hb _ _ _ _, hR _, congrArg Value.ref (hRs _), fun X => by rcases hrf X _ with q | ⟨z, q⟩ <;> rw [q] <;> exact ⟨rfl, rfl⟩⟩
theorem so_put (hx : p.tables.exec = Jvm.exec) (hb : c.code = cc) (hF : qq_Fx X s) (hP : qq_Hp X σ H) (hlo : ∀ z ∈ locs, xb_ X ≤ z.base) {own : String} (hown : s.vm.findClass own = some m.cls) {a ci k ix : Nat} {v : Value} {σ' : qq_S} {q : vw_C} (hq : qq_cl[ci]? = some q) (hc1 : ci ≠ 1) (hk : (kd_S σ a).1 = ci) (hkn : k < qq_nf ci) (ha : qq_K0 ≤ a) (hput : qq_put σ (qq_ty ci k) a k v = some σ')
    (hlink : ((q.2.1 k).2.2.2 = false ∧ ((Cond.fieldLink own ix (q.2.1 k).1 (q.2.1 k).2.1 (q.2.1 k).2.2.1).before args s = true ∨ ∃ host, (Cond.fieldLinkNest own ix (q.2.1 k).1 (q.2.1 k).2.1 (q.2.1 k).2.2.1 host).before args s = true)) ∨
      ((q.2.1 k).2.2.2 = true ∧ (q.2.1 k).1 = own ∧ meth.name = "<init>" ∧ (Cond.fieldLink own ix (q.2.1 k).1 (q.2.1 k).2.1 (q.2.1 k).2.2.1).before args s = true)) (hd : decode cc pc = .ok (.putfield ix, 3))
    (kk : ∀ (H' : Heap) (locs' : List Loc), qq_Hp X σ' H' → (∀ z ∈ locs', xb_ X ≤ z.base) → W p l e R s m args below meth c H' locs' cells slots Q (F0 m (pc + 3) ls rest)) : W p l e R s m args below meth c H locs cells slots Q (F0 m pc ls (rv_ X v :: rv_ X (.ref a) :: rest)) := by
  have hc14 := cl_lt hq
  have e1 : rv_ X (.ref a) = .ref (xb_ X + (a - qq_K0)) := by simp only [rv_, ro_own ha]; rfl
  rw [e1]
  have hlt := hp_lt hP (a := a) (by omega)
  have hce := hP.2.2.2.2.2 a ha hlt
  rw [qq_Ce, hk, if_pos (by omega)] at hce
  obtain ⟨hcl, cell, h2, h3, h4, h6⟩ := hce
  have hkq : k < q.2.2 := by rw [(ty_at hq).1]; exact hkn
  obtain ⟨hfc, hS⟩ := hF.2.2.1 ci q hq
  obtain ⟨cf, kf, fi, fd, g1, g2, g3⟩ := hS k hkq
  obtain ⟨e2, e3, -, e4, e5, e6, e7⟩ := put_val hput
  obtain ⟨hnar, hfit⟩ := e7 X
  have hlay := lay_at hF hq (by omega) hkq (a' := args)
  have hdty := ((ty_at hq).2 k hkq).1
  -- the class as the tables have it
  obtain ⟨kC, hkC, hkind, -⟩ := qq_ord hF hq hc1
  have hend : ∀ H' : Heap, H'[xb_ X + (a - qq_K0)]? = some (cell.setSlot fd.slot (rv_ X v)) → H'.size = H.size → (∀ z : Nat, z ≠ xb_ X + (a - qq_K0) → H'[z]? = H[z]?) → qq_Hp X σ' H' := by
    intro H' w1 w2 w3
    refine hp_put hP ha hlt e2 e3 e4 ?_ w2 w3
    rw [qq_Ce, e2, hk, if_pos (by omega)]
    refine ⟨hcl, _, w1, h3, h4, ?_⟩
    intro j hj
    rw [g3]
    by_cases hjk : j = k
    · subst hjk
      dsimp only
      rw [e6]
      have hs0 : X.2.1 ci j < cell.slots.size := (Array.getElem?_eq_some_iff.mp (h6 j hj)).1
      simp [Cell.setSlot, hs0]
    · have h8 := h6 j hj
      dsimp only at h8 ⊢
      rw [e5 _ j hjk, ← h8]
      exact slot_ne cell _ (slot_apart hF hq (by omega) hkq (by rw [(ty_at hq).1]; exact hj) (fun w => hjk w.symm))
  have hb0 : xb_ X ≤ xb_ X + (a - qq_K0) := Nat.le_add_right _ _
  have hsl : fd.slot < cell.slots.size := by rw [g3]; exact (Array.getElem?_eq_some_iff.mp (h6 k hkn)).1
  rcases hlink with ⟨hfin, hl⟩ | ⟨hfin, hdecl, hini, hl⟩
  · unfold u_lay at hlay
    rw [if_neg (by rw [hfin]; decide)] at hlay
    have h7 := u_store hfc hkC hkind hlay g1 hdty hnar hfit
    rcases hl with hl | ⟨host, hl⟩
    · exact W.putK hx hb (f := fd) ⟨hown, hl, ⟨_, _, _, g1⟩, g2⟩ (by rw [h3]; exact h7) h2 h4 hsl rfl rfl hd fun H' w1 w2 w3 => kk H' _ (hend H' w1 w2 w3) (lo_app hlo hb0)
    · exact va_WputK hx hb (f := fd) hown hl g1 g2 (by rw [h3]; exact h7) h2 h4 hsl rfl rfl hd fun H' w1 w2 w3 => kk H' _ (hend H' w1 w2 w3) (lo_app hlo hb0)
  · unfold u_lay at hlay
    rw [if_pos hfin] at hlay
    have h7 := u_fits hfc hkC hkind (Or.inr hlay) g1 hdty hnar hfit
    have hcf : m.cls = cf := by
      obtain ⟨_, _, c', _, _, _, -, -, hf', -, -, -, hown2, -⟩ := Cond.laysFinal_spec hlay
      have e8 : c' = cf := by have := g1.symm.trans hf'; simp at this; exact this.1.symm
      rw [hdecl] at hown2
      rw [← e8]; exact Option.some.inj (hown.symm.trans hown2)
    exact W.putFinK hx hb hown hl g1 g2 hcf hini (by rw [h3]; exact h7) h2 h4 hsl rfl rfl hd fun H' w1 w2 w3 => kk H' _ (hend H' w1 w2 w3) (lo_app hlo hb0)
theorem so_gets (hx : p.tables.exec = Jvm.exec) (hb : c.code = cc) (hF : qq_Fx X s) (hP : qq_Hp X σ H) {own : String} (hown : s.vm.findClass own = some m.cls) {i ix : Nat} {q : String × String × String × Value} (hq : qq_stat[i]? = some q)
    (hlink : (Cond.fieldLink own ix q.1 q.2.1 q.2.2.1).before args s = true ∨ ∃ host, (Cond.fieldLinkNest own ix q.1 q.2.1 q.2.2.1 host).before args s = true) (hd : decode cc pc = .ok (.getstatic ix, 3))
    (kk : W p l e R s m args below meth c H locs cells slots Q (F0 m (pc + 3) ls (rv_ X q.2.2.2 :: rest))) : W p l e R s m args below meth c H locs cells slots Q (F0 m pc ls rest) := by
  obtain ⟨cf, kf, fi, f, a, cell, h1, h2, h3, h4, h5, h6, h7, h8⟩ := hF.2.2.2.2.2.2.1 i q hq
  have hal : a < xb_ X := (Array.getElem?_eq_some_iff.mp h5).1
  have hH : H[a]? = some cell := by rw [hP.2.2.1 a hal]; exact h5
  rcases hlink with hl | ⟨host, hl⟩
  · exact W.gets hx hb hown hl h1 h2 h3 h4 hH (fun e => by rw [e] at h6; cases h6) h7 rfl hd kk
  · exact va_WgetsN hx hb hown hl h1 h2 h3 h4 hH (fun e => by rw [e] at h6; cases h6) h7 rfl hd kk
theorem so_ldcS (hx : p.tables.exec = Jvm.exec) (hb : c.code = cc) (hF : qq_Fx X s) {own : String} (hown : s.vm.findClass own = some m.cls) {i ix : Nat} {q : String × Nat × String × Nat} (hq : qq_strs[i]? = some q) (ho : q.1 = own) (hi : q.2.1 = ix) (hid : q.2.2.2 < qq_K0) (hd : decode cc pc = .ok (.ldc ix, 2))
    (kk : W p l e R s m args below meth c H locs cells slots Q (F0 m (pc + 2) ls (rv_ X (.ref q.2.2.2) :: rest))) : W p l e R s m args below meth c H locs cells slots Q (F0 m pc ls rest) := by
  obtain ⟨a, h1, h2⟩ := hF.2.2.2.2.1 i q hq
  have e1 : rv_ X (.ref q.2.2.2) = .ref a := by simp only [rv_, ro_con hid, h1]; rfl
  rw [e1] at kk
  rw [ho, hi] at h2
  exact va_ldcS hx hb hown h2 hd kk
theorem so_new (hx : p.tables.exec = Jvm.exec) (hb : c.code = cc) (hF : qq_Fx X s) (hP : qq_Hp X σ H) {own : String} (hown : s.vm.findClass own = some m.cls) {ci ix : Nat} {q : vw_C} (hq : qq_cl[ci]? = some q) (hc1 : ci ≠ 1) (hlink : (Cond.classLink own ix q.1).before args s = true) (hini : (Cond.initialized q.1).before args s = true)
    (hc : cells + 1 ≤ R.cells) (hs : slots + qq_nf ci ≤ R.slots) (hd : decode cc pc = .ok (.new ix, 3))
    (kk : ∀ H' : Heap, qq_Hp X (nw_S σ 1 (ci, 0) (qq_nf ci)) H' → W p l e R s m args below meth c H' locs (cells + 1) (slots + qq_nf ci) Q (F0 m (pc + 3) ls (rv_ X (.ref (sz_S σ)) :: rest))) : W p l e R s m args below meth c H locs cells slots Q (F0 m pc ls rest) := by
  have hc14 := cl_lt hq
  obtain ⟨kC, hkC, hkind, hins⟩ := qq_ord hF hq hc1
  obtain ⟨hfc, hS⟩ := hF.2.2.1 ci q hq
  have hn := (ty_at hq).1
  have e1 : rv_ X (.ref (sz_S σ)) = .ref H.size := by
    simp only [rv_, ro_own hP.1]
    rw [hP.2.1]; rfl
  rw [e1] at kk
  have hins' : (Cond.instantiable q.1 (qq_nf ci)).before args s = true := by
    rw [← hn]
    have h := List.all_eq_true.mp qq_ins_ok ci (List.mem_range.mpr hc14)
    simp only [hq, Bool.or_eq_true, decide_eq_true_eq] at h
    exact Fx_word hF (h.resolve_left (by omega)) (by rfl)
  refine W.newcK hx hb hown hlink hins' hini rfl hd hc hs hfc rfl fun H1 kC1 hkC1 w1 w2 w3 => kk H1 (hp_new hP _ _ w2 w3 ?_)
  have hsz : (kd_S (nw_S σ 1 (ci, 0) (qq_nf ci)) (sz_S σ)) = (ci, 0) := if_pos ⟨Nat.le_refl _, Nat.lt_succ_self _⟩
  rw [qq_Ce, hsz]
  dsimp only
  rw [if_pos (show ci < 100 by omega)]
  refine ⟨by rw [qq_nl.2]; exact hc14, ?_⟩
  have hb0 : t_OB H.size (X.1 ci) q.2.2 (X.2.1 ci) H1 (fun k => defaultValue (qq_ty ci k)) := by
    refine u_born (ws := u_ws q.1 q.2.1 q.2.2) (args := args) (T := q.2.1) (C := q.1) (qq_ty ci) (fun w hw => ?_) (fun w hw => hw) ⟨fun k hk => ?_, hfc, kC, hkC, hkind⟩ hkC1 w1 (fun k hk => ((ty_at hq).2 k hk).1)
    · obtain ⟨j, hj, rfl⟩ := List.mem_map.mp hw
      exact lay_at hF hq (by omega) (List.mem_range.mp hj)
    · obtain ⟨cf, kf, fi, fd, g1, g2, g3⟩ := hS k hk
      exact ⟨cf, kf, fi, fd, g1, g3⟩
  rw [hn, hP.2.1] at hb0
  refine hb0.to fun k _ => ?_
  have h0 : rv_ X (.ref 0) = .null := by simp only [rv_, ro_con (show 0 < qq_K0 by decide), hF.2.2.2.2.2.2.2.2.2.2.1]; rfl
  rw [nw_val σ (ci, 0) (qq_nf ci) (qq_ty ci k) k 0]
  cases qq_ty ci k <;> first | rfl | exact h0.symm
theorem so_newa (hx : p.tables.exec = Jvm.exec) (hb : c.code = cc) (hF : qq_Fx X s) (hP : qq_Hp X σ H) {t : Nat} {at_ : ArrayType} (hat : qq_at t = true) (het : qq_et t = newarray.typeOf at_) (hw : (Cond.arrayClass (newarray.typeOf at_)).before args s = true) {n : Int32} (hn0 : ¬ n < 0) (hn : n.toNatClampNeg ≤ 65536)
    (hc : cells + 1 ≤ R.cells) (hs : slots + n.toNatClampNeg ≤ R.slots) (hd : decode cc pc = .ok (.newarray at_, 2))
    (kk : ∀ H' : Heap, qq_Hp X (nw_S σ 1 (t, n.toNatClampNeg) n.toNatClampNeg) H' → W p l e R s m args below meth c H' locs (cells + 1) (slots + n.toNatClampNeg) Q (F0 m (pc + 2) ls (rv_ X (.ref (sz_S σ)) :: rest))) : W p l e R s m args below meth c H locs cells slots Q (F0 m pc ls (.int n :: rest)) := by
  obtain ⟨t1, t2, t3⟩ := qq_at_no hat
  have e1 : rv_ X (.ref (sz_S σ)) = .ref H.size := by
    simp only [rv_, ro_own hP.1]
    rw [hP.2.1]; rfl
  rw [e1] at kk
  refine va_newaK hx hb hw rfl hd rfl hn0 rfl (by have : componentBytes (newarray.typeOf at_) ≤ 8 := (by cases at_ <;> decide); have := Nat.mul_le_mul hn this; omega) hc hs rfl fun H1 cA w1 w2 w3 w4 w5 => kk H1 (hp_new hP _ _ w2 w3 ?_)
  have hsz : (kd_S (nw_S σ 1 (t, n.toNatClampNeg) n.toNatClampNeg) (sz_S σ)) = (t, n.toNatClampNeg) := if_pos ⟨Nat.le_refl _, Nat.lt_succ_self _⟩
  rw [qq_Ce, hsz]
  dsimp only
  rw [if_neg (by omega), if_pos (by omega)]
  have hra := (hF.2.2.2.1 t hat).2
  rw [het] at hra
  have hcA : X.2.2.1 t = cA := by
    have h9 : s.vm.findClass ("[" ++ (newarray.typeOf at_).toString) = some (X.2.2.1 t) := by cases at_ <;> exact hra
    exact Option.some.inj (h9.symm.trans w5)
  refine ⟨hat, ?_⟩
  rw [hP.2.1] at w1
  rw [w1, hcA, het]
  refine congrArg some (congrArg (arrV _ _) (funext fun j => ?_))
  rw [nw_val σ (t, n.toNatClampNeg) n.toNatClampNeg _ j 0]
  cases at_ <;> rfl
theorem so_anew (hx : p.tables.exec = Jvm.exec) (hb : c.code = cc) (hF : qq_Fx X s) (hP : qq_Hp X σ H) {own C : String} (hown : s.vm.findClass own = some m.cls) {t ix : Nat} (hat : qq_at t = true) (het : qq_et t = .object C) (hw : (Cond.classLink own ix C).before args s = true) (hw2 : (Cond.arrayOver (.object C)).before args s = true) {n : Int32} (hn0 : ¬ n < 0) (hn : n.toNatClampNeg ≤ 65536)
    (hc : cells + 1 ≤ R.cells) (hs : slots + n.toNatClampNeg ≤ R.slots) (hd : decode cc pc = .ok (.anewarray ix, 3))
    (kk : ∀ H' : Heap, qq_Hp X (nw_S σ 1 (t, n.toNatClampNeg) n.toNatClampNeg) H' → W p l e R s m args below meth c H' locs (cells + 1) (slots + n.toNatClampNeg) Q (F0 m (pc + 3) ls (rv_ X (.ref (sz_S σ)) :: rest))) : W p l e R s m args below meth c H locs cells slots Q (F0 m pc ls (.int n :: rest)) := by
  obtain ⟨t1, t2, t3⟩ := qq_at_no hat
  have e1 : rv_ X (.ref (sz_S σ)) = .ref H.size := by
    simp only [rv_, ro_own hP.1]
    rw [hP.2.1]; rfl
  rw [e1] at kk
  refine W.anew hx hb hown hw hw2 rfl hd rfl hn0 (by omega) hc hs fun cA kA comp w1 w2 w3 w4 => kk _ (hp_new hP _ _ (by simp) (fun q hq => by rw [Array.getElem?_push, if_neg (Nat.ne_of_lt hq)]) ?_)
  have hsz : (kd_S (nw_S σ 1 (t, n.toNatClampNeg) n.toNatClampNeg) (sz_S σ)) = (t, n.toNatClampNeg) := if_pos ⟨Nat.le_refl _, Nat.lt_succ_self _⟩
  rw [qq_Ce, hsz]
  dsimp only
  rw [if_neg (by omega), if_pos (by omega)]
  have hra := (hF.2.2.2.1 t hat).2
  rw [het] at hra
  obtain ⟨_, _, _, _, _, h9⟩ := hra
  have hcA : X.2.2.1 t = cA := Option.some.inj (h9.symm.trans w1)
  refine ⟨hat, ?_⟩
  rw [← hP.2.1, Array.getElem?_push_size, arrV_new, hcA, het]
  refine congrArg some (congrArg (arrV _ _) (funext fun j => ?_))
  rw [nw_val σ (t, n.toNatClampNeg) n.toNatClampNeg _ j 0]
  have h0 : rv_ X (.ref 0) = .null := by simp only [rv_, ro_con (show 0 < qq_K0 by decide), hF.2.2.2.2.2.2.2.2.2.2.1]; rfl
  exact h0.symm
end QHF
