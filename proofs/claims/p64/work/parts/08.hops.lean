/-! THE MACHINE DOES WHAT THE ABSTRACT MACHINE DOES: instructions of the heap -/
theorem hp_own {X : qq_X} {σ : qq_S} {H : Heap} (h : qq_Hp X σ H) {a t : Nat} (hk : (kd_S σ a).1 = t) (ht : qq_at t = true) (ha : qq_K0 ≤ a) :
    a < sz_S σ ∧ H[xb_ X + (a - qq_K0)]? = some (arrV (X.2.2.1 t) (kd_S σ a).2 (fun j => rv_ X (qq_val σ (qq_et t) a j))) := by
  obtain ⟨t1, t2, t3⟩ := qq_at_no ht
  have hlt := hp_lt h (a := a) (by rw [hk]; exact t3)
  have hce := h.2.2.2.2.2 a ha hlt
  rw [qq_Ce, hk, if_neg (by omega), if_pos (by omega)] at hce
  exact ⟨hlt, hce.2⟩
theorem ar_put {X : qq_X} {σ σ' : qq_S} {H H' : Heap} {a t j : Nat} {v : Value} (h : qq_Hp X σ H) (hk : (kd_S σ a).1 = t) (ht : qq_at t = true) (ha : qq_K0 ≤ a) (hkd : ∀ b, kd_S σ' b = kd_S σ b) (hs : sz_S σ' = sz_S σ) (hv : ∀ b, b ≠ a → ∀ ty k, qq_val σ' ty b k = qq_val σ ty b k)
    (hn : ∀ q, rv_ X (qq_val σ' (qq_et t) a q) = updV (fun q => rv_ X (qq_val σ (qq_et t) a q)) j v q)
    (e : H'[xb_ X + (a - qq_K0)]? = some ((arrV (X.2.2.1 t) (kd_S σ a).2 (fun j => rv_ X (qq_val σ (qq_et t) a j))).setSlot j v)) (hz' : H'.size = H.size) (oq : ∀ q : Nat, q ≠ xb_ X + (a - qq_K0) → H'[q]? = H[q]?) : qq_Hp X σ' H' := by
  obtain ⟨t1, t2, t3⟩ := qq_at_no ht
  refine hp_put h ha (hp_own h hk ht ha).1 hkd hs hv ?_ hz' oq
  rw [qq_Ce, hkd, hk, if_neg (by omega), if_pos (by omega)]
  refine ⟨ht, ?_⟩
  rw [e, arrV_store]
  exact congrArg some (congrArg (arrV _ _) (funext fun q => (hn q).symm))
section QHE
variable {p : Program} {l : Launch} {e : Env} {R : Room} {s : State} {m : MethodId} {args : Array Value} {below : List Frame} {meth : Method} {c : Code} {H : Heap} {locs : List Loc} {cells slots : Nat} {Q : State → Prop}
variable {cc : ByteArray} {pc : Nat} {ls : Array Slot} {rest : List Value} {X : qq_X} {σ : qq_S}
theorem lo_app {X : qq_X} {locs : List Loc} (hl : ∀ z ∈ locs, xb_ X ≤ z.base) {q k : Nat} (hq : xb_ X ≤ q) : ∀ z ∈ locs ++ [⟨q, k⟩], xb_ X ≤ z.base := by
  intro z hz
  rcases List.mem_append.mp hz with h | h
  · exact hl z h
  · rw [List.mem_singleton.mp h]; exact hq
theorem so_alen (hx : p.tables.exec = Jvm.exec) (hb : c.code = cc) (hF : qq_Fx X s) (hP : qq_Hp X σ H) {a : Nat} (hk : qq_at (kd_S σ a).1 = true) (hd : decode cc pc = .ok (.arraylength, 1))
    (k : W p l e R s m args below meth c H locs cells slots Q (F0 m (pc + 1) ls (.int (Int32.ofNat (kd_S σ a).2) :: rest))) : W p l e R s m args below meth c H locs cells slots Q (F0 m pc ls (rv_ X (.ref a) :: rest)) := by
  obtain ⟨q, h1, cell, h2, h3, h4, h5, h6, h7⟩ := hp_ar hF hP rfl hk
  have e1 : rv_ X (.ref a) = .ref q := by simp only [rv_, h1]; rfl
  rw [e1]
  exact W.alen (n := Int32.ofNat (kd_S σ a).2) hx hb h2 h3 (by rw [h6] <;> rfl) rfl rfl hd k
theorem so_iald (hx : p.tables.exec = Jvm.exec) (hb : c.code = cc) (hF : qq_Fx X s) (hP : qq_Hp X σ H) {a : Nat} {i : Int32} (hk : (kd_S σ a).1 = 100) (hin : vp_in i (kd_S σ a).2) (hd : decode cc pc = .ok (.iaload, 1))
    (k : W p l e R s m args below meth c H locs cells slots Q (F0 m (pc + 1) ls (.int (rd_I σ a i.toNatClampNeg) :: rest))) : W p l e R s m args below meth c H locs cells slots Q (F0 m pc ls (.int i :: rv_ X (.ref a) :: rest)) := by
  obtain ⟨q, h1, cell, h2, h3, h4, h5, h6, h7⟩ := hp_ar hF hP hk rfl
  have hlt : i.toNatClampNeg < (kd_S σ a).2 := Nat.not_le.mp fun q => hin (Or.inr q)
  have e1 : rv_ X (.ref a) = .ref q := by simp only [rv_, h1]; rfl
  rw [e1]
  exact W.iald hx hb h2 h3 h4 (by rw [h6]; exact hin) (h7 _ hlt) rfl rfl hd k
theorem so_bald (hx : p.tables.exec = Jvm.exec) (hb : c.code = cc) (hF : qq_Fx X s) (hP : qq_Hp X σ H) {a : Nat} {i : Int32} (hk : (kd_S σ a).1 = 101 ∨ (kd_S σ a).1 = 102) (hin : vp_in i (kd_S σ a).2) (hd : decode cc pc = .ok (.baload, 1))
    (k : W p l e R s m args below meth c H locs cells slots Q (F0 m (pc + 1) ls (.int (rd_I σ a i.toNatClampNeg) :: rest))) : W p l e R s m args below meth c H locs cells slots Q (F0 m pc ls (.int i :: rv_ X (.ref a) :: rest)) := by
  have hlt : i.toNatClampNeg < (kd_S σ a).2 := Nat.not_le.mp fun q => hin (Or.inr q)
  rcases hk with hk | hk
  · obtain ⟨q, h1, cell, h2, h3, h4, h5, h6, h7⟩ := hp_ar hF hP hk rfl
    have e1 : rv_ X (.ref a) = .ref q := by simp only [rv_, h1]; rfl
    rw [e1]
    exact W.zald hx hb h2 h3 h4 (by rw [h6]; exact hin) (h7 _ hlt) rfl rfl hd k
  · obtain ⟨q, h1, cell, h2, h3, h4, h5, h6, h7⟩ := hp_ar hF hP hk rfl
    have e1 : rv_ X (.ref a) = .ref q := by simp only [rv_, h1]; rfl
    rw [e1]
    exact W.bald hx hb h2 h3 h4 (by rw [h6]; exact hin) (h7 _ hlt) rfl rfl hd k
theorem so_lald (hx : p.tables.exec = Jvm.exec) (hb : c.code = cc) (hF : qq_Fx X s) (hP : qq_Hp X σ H) {a : Nat} {i : Int32} (hk : (kd_S σ a).1 = 105) (hin : vp_in i (kd_S σ a).2) (hd : decode cc pc = .ok (.laload, 1))
    (k : W p l e R s m args below meth c H locs cells slots Q (F0 m (pc + 1) ls (.long (rd_L σ a i.toNatClampNeg) :: rest))) : W p l e R s m args below meth c H locs cells slots Q (F0 m pc ls (.int i :: rv_ X (.ref a) :: rest)) := by
  obtain ⟨q, h1, cell, h2, h3, h4, h5, h6, h7⟩ := hp_ar hF hP hk rfl
  have hlt : i.toNatClampNeg < (kd_S σ a).2 := Nat.not_le.mp fun q => hin (Or.inr q)
  have e1 : rv_ X (.ref a) = .ref q := by simp only [rv_, h1]; rfl
  rw [e1]
  exact W.lald hx hb h2 h3 h4 (by rw [h6]; exact hin) (h7 _ hlt) rfl rfl hd k
theorem so_aald (hx : p.tables.exec = Jvm.exec) (hb : c.code = cc) (hF : qq_Fx X s) (hP : qq_Hp X σ H) {a : Nat} {i : Int32} (hk : 110 ≤ (kd_S σ a).1 ∧ (kd_S σ a).1 < 113) (hin : vp_in i (kd_S σ a).2) (hd : decode cc pc = .ok (.aaload, 1))
    (k : W p l e R s m args below meth c H locs cells slots Q (F0 m (pc + 1) ls (rv_ X (.ref (rd_R σ a i.toNatClampNeg)) :: rest))) : W p l e R s m args below meth c H locs cells slots Q (F0 m pc ls (.int i :: rv_ X (.ref a) :: rest)) := by
  have hlt : i.toNatClampNeg < (kd_S σ a).2 := Nat.not_le.mp fun q => hin (Or.inr q)
  have h3 : (kd_S σ a).1 = 110 ∨ (kd_S σ a).1 = 111 ∨ (kd_S σ a).1 = 112 := by omega
  rcases h3 with hk | hk | hk
  all_goals
    obtain ⟨q, h1, cell, h2, h3, h4, h5, h6, h7⟩ := hp_ar hF hP hk rfl
    have e1 : rv_ X (.ref a) = .ref q := by simp only [rv_, h1]; rfl
    rw [e1]
    exact W.aald hx hb h2 h3 rfl h4 (by rw [h6]; exact hin) (h7 _ hlt) rfl rfl hd k
theorem so_iast (hx : p.tables.exec = Jvm.exec) (hb : c.code = cc) (hF : qq_Fx X s) (hP : qq_Hp X σ H) (hl : ∀ z ∈ locs, xb_ X ≤ z.base) {a : Nat} {i x : Int32} (hk : (kd_S σ a).1 = 100) (hin : vp_in i (kd_S σ a).2) (ha : qq_K0 ≤ a) (hd : decode cc pc = .ok (.iastore, 1))
    (k : ∀ (H' : Heap) (locs' : List Loc), qq_Hp X (wr_I σ a i.toNatClampNeg x) H' → (∀ z ∈ locs', xb_ X ≤ z.base) → W p l e R s m args below meth c H' locs' cells slots Q (F0 m (pc + 1) ls rest)) : W p l e R s m args below meth c H locs cells slots Q (F0 m pc ls (.int x :: .int i :: rv_ X (.ref a) :: rest)) := by
  obtain ⟨hlt, hc⟩ := hp_own hP hk rfl ha
  have e1 : rv_ X (.ref a) = .ref (xb_ X + (a - qq_K0)) := by simp only [rv_, ro_own ha]; rfl
  rw [e1]
  refine W.iast hx hb hc ((hF.2.2.2.1 100 rfl).1 _ _) (fun q => by cases q) (by rw [arrV_size]; exact hin) rfl rfl hd fun H' g1 g2 g3 => k H' _ ?_ (lo_app hl (Nat.le_add_right _ _))
  refine ar_put hP hk rfl ha (fun _ => rfl) rfl (fun b hb ty k => val_up hb _ _ _ _) (fun q => ?_) g1 g2 g3
  show rv_ X (.int (up_2 σ.1 a i.toNatClampNeg x a q)) = _
  by_cases hq : q = i.toNatClampNeg
  · subst hq; simp [up_2, updV, rv_]
  · simp only [up_2, updV, hq, and_false, if_false]; rfl
theorem so_last (hx : p.tables.exec = Jvm.exec) (hb : c.code = cc) (hF : qq_Fx X s) (hP : qq_Hp X σ H) (hl : ∀ z ∈ locs, xb_ X ≤ z.base) {a : Nat} {i : Int32} {x : Int64} (hk : (kd_S σ a).1 = 105) (hin : vp_in i (kd_S σ a).2) (ha : qq_K0 ≤ a) (hd : decode cc pc = .ok (.lastore, 1))
    (k : ∀ (H' : Heap) (locs' : List Loc), qq_Hp X (wr_L σ a i.toNatClampNeg x) H' → (∀ z ∈ locs', xb_ X ≤ z.base) → W p l e R s m args below meth c H' locs' cells slots Q (F0 m (pc + 1) ls rest)) : W p l e R s m args below meth c H locs cells slots Q (F0 m pc ls (.long x :: .int i :: rv_ X (.ref a) :: rest)) := by
  obtain ⟨hlt, hc⟩ := hp_own hP hk rfl ha
  have e1 : rv_ X (.ref a) = .ref (xb_ X + (a - qq_K0)) := by simp only [rv_, ro_own ha]; rfl
  rw [e1]
  refine W.last hx hb hc ((hF.2.2.2.1 105 rfl).1 _ _) (fun q => by cases q) (by rw [arrV_size]; exact hin) rfl rfl hd fun H' g1 g2 g3 => k H' _ ?_ (lo_app hl (Nat.le_add_right _ _))
  refine ar_put hP hk rfl ha (fun _ => rfl) rfl (fun b hb ty k => val_upL hb _ _ _ _) (fun q => ?_) g1 g2 g3
  show rv_ X (.long (up_2 σ.2.2.1 a i.toNatClampNeg x a q)) = _
  by_cases hq : q = i.toNatClampNeg
  · subst hq; simp [up_2, updV, rv_]
  · simp only [up_2, updV, hq, and_false, if_false]; rfl
theorem vn_int (ty : FieldType) (x : Int32) (h : ty = .boolean ∨ ty = .byte) : narrow ty (.int x) = .int (vp_nar ty x) := by
  rcases h with rfl | rfl <;> rfl
theorem so_bast (hx : p.tables.exec = Jvm.exec) (hb : c.code = cc) (hF : qq_Fx X s) (hP : qq_Hp X σ H) (hl : ∀ z ∈ locs, xb_ X ≤ z.base) {a : Nat} {i x : Int32} (hk : (kd_S σ a).1 = 101 ∨ (kd_S σ a).1 = 102) (hin : vp_in i (kd_S σ a).2) (ha : qq_K0 ≤ a) (hd : decode cc pc = .ok (.bastore, 1))
    (k : ∀ (H' : Heap) (locs' : List Loc), qq_Hp X (wr_I σ a i.toNatClampNeg (vp_nar (if (kd_S σ a).1 = 101 then .boolean else .byte) x)) H' → (∀ z ∈ locs', xb_ X ≤ z.base) → W p l e R s m args below meth c H' locs' cells slots Q (F0 m (pc + 1) ls rest)) : W p l e R s m args below meth c H locs cells slots Q (F0 m pc ls (.int x :: .int i :: rv_ X (.ref a) :: rest)) := by
  have e1 : rv_ X (.ref a) = .ref (xb_ X + (a - qq_K0)) := by simp only [rv_, ro_own ha]; rfl
  rw [e1]
  rcases hk with hk | hk
  · obtain ⟨hlt, hc⟩ := hp_own hP hk rfl ha
    rw [if_pos hk] at k
    refine W.zast hx hb hc ((hF.2.2.2.1 101 rfl).1 _ _) (fun q => by cases q) (by rw [arrV_size]; exact hin) rfl rfl hd fun H' g1 g2 g3 => k H' _ ?_ (lo_app hl (Nat.le_add_right _ _))
    rw [vn_int _ _ (Or.inl rfl)] at g1
    refine ar_put hP hk rfl ha (fun _ => rfl) rfl (fun b hb ty k => val_up hb _ _ _ _) (fun q => ?_) g1 g2 g3
    show rv_ X (.int (up_2 σ.1 a i.toNatClampNeg _ a q)) = _
    by_cases hq : q = i.toNatClampNeg
    · subst hq; simp [up_2, updV, rv_]
    · simp only [up_2, updV, hq, and_false, if_false]; rfl
  · obtain ⟨hlt, hc⟩ := hp_own hP hk rfl ha
    rw [if_neg (by omega)] at k
    refine W.bast hx hb hc ((hF.2.2.2.1 102 rfl).1 _ _) (fun q => by cases q) (by rw [arrV_size]; exact hin) rfl rfl hd fun H' g1 g2 g3 => k H' _ ?_ (lo_app hl (Nat.le_add_right _ _))
    rw [vn_int _ _ (Or.inr rfl)] at g1
    refine ar_put hP hk rfl ha (fun _ => rfl) rfl (fun b hb ty k => val_up hb _ _ _ _) (fun q => ?_) g1 g2 g3
    show rv_ X (.int (up_2 σ.1 a i.toNatClampNeg _ a q)) = _
    by_cases hq : q = i.toNatClampNeg
    · subst hq; simp [up_2, updV, rv_]
    · simp only [up_2, updV, hq, and_false, if_false]; rfl
theorem so_aast (hx : p.tables.exec = Jvm.exec) (hb : c.code = cc) (hF : qq_Fx X s) (hP : qq_Hp X σ H) (hl : ∀ z ∈ locs, xb_ X ≤ z.base) {a b : Nat} {i : Int32} (hk : (kd_S σ a).1 = 111 ∧ (kd_S σ b).1 = 8 ∨ (kd_S σ a).1 = 112 ∧ (kd_S σ b).1 = 1) (hin : vp_in i (kd_S σ a).2) (ha : qq_K0 ≤ a) (hd : decode cc pc = .ok (.aastore, 1))
    (k : ∀ (H' : Heap) (locs' : List Loc), qq_Hp X (wr_R σ a i.toNatClampNeg b) H' → (∀ z ∈ locs', xb_ X ≤ z.base) → W p l e R s m args below meth c H' locs' cells slots Q (F0 m (pc + 1) ls rest)) : W p l e R s m args below meth c H locs cells slots Q (F0 m pc ls (rv_ X (.ref b) :: .int i :: rv_ X (.ref a) :: rest)) := by
  have e1 : rv_ X (.ref a) = .ref (xb_ X + (a - qq_K0)) := by simp only [rv_, ro_own ha]; rfl
  have hlt : i.toNatClampNeg < (kd_S σ a).2 := Nat.not_le.mp fun q => hin (Or.inr q)
  have h0 : ¬ i < 0 := fun q => hin (Or.inl q)
  rw [e1]
  have key : ∀ (t ci : Nat) (C : String) (T : u_T) (N : Nat), (kd_S σ a).1 = t → (kd_S σ b).1 = ci → ci < 100 → qq_at t = true → qq_et t = .object C → qq_cl[ci]? = some (C, T, N) →
      W p l e R s m args below meth c H locs cells slots Q (F0 m pc ls (rv_ X (.ref b) :: .int i :: .ref (xb_ X + (a - qq_K0)) :: rest)) := by
    intro t ci C T N hk hkb hci hat het hcl
    obtain ⟨hla, hc⟩ := hp_own hP hk hat ha
    obtain ⟨q, h1, cell, h2, h3, h4, h5, h6⟩ := hp_ob hP hkb hci
    have e2 : rv_ X (.ref b) = .ref q := by simp only [rv_, h1]; rfl
    have hra := (hF.2.2.2.1 t hat).2
    rw [het] at hra
    obtain ⟨kA, comp, k1, k2, k3, -⟩ := hra
    have hfc := (hF.2.2.1 ci _ hcl).1
    have hcomp : comp = _ := Option.some.inj (k3.symm.trans hfc)
    rw [e2]
    obtain ⟨kc, hkc, -⟩ := Vm.findClass_spec hfc
    refine W.aast hx hb hc (fun q h => by cases h) (fun h => by cases h) k1 k2 rfl (by rw [hcomp]; exact hkc) ⟨h0, by rw [arrV_size]; exact hlt⟩ h2 (fun q h => by rw [h] at h5; cases h5) (by rw [h3]; exact hkc) (by rw [h3, hcomp]; exact va_asg _ _) rfl rfl hd fun H' g1 g2 g3 => k H' _ ?_ (lo_app hl (Nat.le_add_right _ _))
    refine ar_put hP hk hat ha (fun _ => rfl) rfl (fun b hb ty k => val_upR hb _ _ _ _) (fun q => ?_) g1 g2 g3
    rw [het]
    show rv_ X (.ref (up_2 σ.2.1 a i.toNatClampNeg b a q)) = _
    by_cases hq : q = i.toNatClampNeg
    · subst hq; simp [up_2, updV, e2]
    · simp only [up_2, updV, hq, and_false, if_false]; rfl
  rcases hk with ⟨hk, hkb⟩ | ⟨hk, hkb⟩
  · exact key 111 8 _ _ _ hk hkb (by decide) rfl rfl rfl
  · exact key 112 1 _ _ _ hk hkb (by decide) rfl rfl rfl
end QHE
