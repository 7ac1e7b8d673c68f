/-! THE CHECK OF A METHOD'S TABLE, AND FRAMES BY FUEL -/
def qq_cv (m j pc : Nat) : Bool := (qq_hn m).length == (qq_hh m).length && ((qq_hn m).zip (qq_hh m)).all (fun q => decide (covers ⟨q.2.1, q.2.2.1, q.2.2.2.1, q.2.2.2.2⟩ pc = decide (q.1.1 ≤ j ∧ j < q.1.2.1)))
def qq_has (w : Jvm.Cond) : Bool := qq_tbl.any (fun v => decide (v = w))
/-- what a throw's words ask -/
def qq_xw (q : String × Nat × Nat × List String) : Bool :=
  (Cond.classLink "StatueChancery" q.2.1 q.1 :: Cond.initialized q.1 :: vx_at0 "StatueChancery" q.2.2.1 q.1 q.2.2.2).all (fun w => vx_ot w && qq_has w && (goodWord w || nestW w)) && Bundle.fit q.1 && q.2.2.2.all Bundle.fit && decide (q.2.2.2.length = 2)
def qq_okp (m j : Nat) (e : qq_E) : Bool :=
  match qq_grp e.2.1 e.2.2.2 with
  | 6 => (match e.2.2.2 with | [t] => decide ((e.1 : Int) + qq_bo e.2.1 = (qq_pc m t : Int)) && decide (e.2.2.1 = 3) && ((match e.2.1 with | .goto _ => true | _ => false) || decide (qq_pc m (j + 1) = e.1 + 3)) | _ => true)
  | 7 => qq_sg e.2.1 && decide ((qq_so e.2.1).length = e.2.2.2.length) && ((qq_so e.2.1).zip e.2.2.2).all (fun q => decide ((e.1 : Int) + q.1 = (qq_pc m q.2 : Int)))
  | 9 => qq_ok9 m e.2.1 e.2.2.2 && decide (e.2.2.1 = qq_len e.2.1) && decide (qq_pc m (j + 1) = e.1 + e.2.2.1)
  | 10 => (match e.2.2.2 with | 99 :: _ => true | _ => qq_okc m e.2.1 e.2.2.2 && decide (e.2.2.1 = 3) && decide (qq_pc m (j + 1) = e.1 + e.2.2.1) && qq_cv m j e.1)
  | 11 => decide (e.2.2.1 = 1)
  | 12 => (match e.2.2.2, e.2.1 with
    | [1, x, _], .new ik => (match qq_ex[x]? with
      | some q => decide ((qq_y m).cls = "StatueChancery") && decide (ik = q.2.1) && decide (e.2.2.1 = 3) && (match qq_T m (j + 1), qq_T m (j + 2), qq_T m (j + 3) with
        | some e1, some e2, some e3 => decide (e1.1 = e.1 + 3) && decide (e1.2.1 = .dup) && decide (e1.2.2.1 = 1) && decide (e2.1 = e.1 + 4) && decide (e2.2.1 = .invokespecial q.2.2.1) && decide (e2.2.2.1 = 3) && decide (e3.1 = e.1 + 7) && decide (e3.2.1 = .athrow) && decide (e3.2.2.1 = 1)
        | _, _, _ => false)
      | none => false)
    | _, _ => true)
  | 13 => true
  | _ => decide (e.2.2.1 = qq_len e.2.1) && decide (qq_pc m (j + 1) = e.1 + e.2.2.1)
def qq_ps : List qq_E → Nat → Bool
  | [], _ => true
  | e :: t, a => decide (e.1 = a) && qq_ps t (a + e.2.2.1)
def qq_ra (m : Nat) : List qq_E → Nat → Bool
  | [], _ => true
  | e :: t, j => qq_okp m j e && qq_ra m t (j + 1)
/-- the handlers' own rows and words -/
def qq_okh (m : Nat) : Bool := ((qq_hn m).zip (qq_hh m)).all (fun q => decide (q.2.2.2.2 ≠ 0) && (match qq_ex[q.1.2.2.1]? with
    | some x => qq_has (.classLink (qq_y m).cls q.2.2.2.2 x.1) && qq_has (.castable x.1 x.1)
    | none => false) && (match qq_T m q.1.2.2.2 with
    | some e => decide (e.1 = q.2.2.2.1) && decide (e.2.2.1 = qq_len e.2.1) && decide (qq_pc m (q.1.2.2.2 + 1) = e.1 + e.2.2.1) && (match qq_sti e.2.1 with | some (i, 4) => decide (i < qq_maxL m) | _ => false)
    | none => false))
def qq_okd (m : Nat) : Bool := Jvm.Free.DS.chk (qq_cd m).data.toList 0 ((qq_tab.getD m []).map (fun e => (e.2.1, e.2.2.1))) && decide (((qq_tab.getD m []).map (fun e => e.2.2.1)).sum ≤ (qq_cd m).size) && qq_ps (qq_tab.getD m []) 0 && decide (qq_maxL m ≤ 27) && plainName (qq_y m).cls && qq_okh m
def qq_okm (m : Nat) : Bool := qq_okd m && qq_ra m (qq_tab.getD m []) 0
theorem ps_dec {cc : ByteArray} : ∀ (L : List qq_E) (a : Nat), qq_ps L a = true → Jvm.Free.DS.Facts cc a (L.map (fun e => (e.2.1, e.2.2.1))) → ∀ (j : Nat) (e : qq_E), L[j]? = some e → decode cc e.1 = .ok (e.2.1, e.2.2.1) := by
  intro L
  induction L with
  | nil => intro a _ _ j e h; cases h
  | cons e0 L ih =>
    intro a hp hf j e h
    simp only [qq_ps, Bool.and_eq_true, decide_eq_true_eq] at hp
    obtain ⟨hf1, hf2⟩ := hf
    cases j with
    | zero =>
      cases h
      rw [hp.1]; exact hf1
    | succ j => exact ih _ hp.2 hf2 j e h
theorem ra_at {m : Nat} : ∀ (L : List qq_E) (a : Nat), qq_ra m L a = true → ∀ (j : Nat) (e : qq_E), L[j]? = some e → qq_okp m (a + j) e = true := by
  intro L
  induction L with
  | nil => intro a _ j e h; cases h
  | cons e0 L ih =>
    intro a hp j e h
    simp only [qq_ra, Bool.and_eq_true] at hp
    cases j with
    | zero => cases h; exact hp.1
    | succ j =>
      have h2 := ih (a + 1) hp.2 j e h
      rw [show a + (j + 1) = a + 1 + j by omega]
      exact h2
/-- what the check says of a method -/
def qq_Ok (m : Nat) : Prop := (∀ (j : Nat) (e : qq_E), qq_T m j = some e → decode (qq_cd m) e.1 = .ok (e.2.1, e.2.2.1) ∧ qq_okp m j e = true) ∧ qq_maxL m ≤ 27 ∧ plainName (qq_y m).cls = true ∧ qq_okh m = true
theorem okm_Ok {m : Nat} (h : qq_okm m = true) : qq_Ok m := by
  simp only [qq_okm, qq_okd, Bool.and_eq_true, decide_eq_true_eq] at h
  obtain ⟨⟨⟨⟨⟨⟨h1, h2⟩, h3⟩, h4⟩, h5⟩, h6⟩, h7⟩ := h
  refine ⟨fun j e he => ⟨?_, ?_⟩, h4, h5, h6⟩
  · refine ps_dec _ 0 h3 (Jvm.Free.DS.facts 0 _ ?_ ?_) j e he
    · rw [List.drop_zero]; exact h1
    · rw [List.map_map]
      show 0 + (List.map (fun e : qq_E => e.2.2.1) _).sum ≤ _
      omega
  · have := ra_at _ 0 h7 j e he
    rw [Nat.zero_add] at this
    exact this
theorem step_grow {m j : Nat} {e : qq_E} {al : List (Option Value)} {st : List Value} {σ σ' : qq_S} {j' : Nat} {al' : List (Option Value)} {st' : List Value} (h : qq_step m e j al st σ = some (.inl (j', al', st', σ'))) : sz_S σ ≤ sz_S σ' ∧ su_S σ ≤ su_S σ' := by
  unfold qq_step at h
  split at h
  · split at h <;> cases h; exact ⟨Nat.le_refl _, Nat.le_refl _⟩
  · split at h
    · split at h
      · split at h <;> cases h; exact ⟨Nat.le_refl _, Nat.le_refl _⟩
      · cases h
    · cases h
  · split at h
    · split at h <;> cases h; exact ⟨Nat.le_refl _, Nat.le_refl _⟩
    · cases h
  · split at h
    · split at h <;> cases h; exact ⟨Nat.le_refl _, Nat.le_refl _⟩
    · cases h
  · split at h
    · split at h <;> cases h; exact ⟨Nat.le_refl _, Nat.le_refl _⟩
    · cases h
  · split at h <;> cases h; exact ⟨Nat.le_refl _, Nat.le_refl _⟩
  · split at h <;> cases h; exact ⟨Nat.le_refl _, Nat.le_refl _⟩
  · split at h
    · split at h
      · split at h <;> cases h; exact ⟨Nat.le_refl _, Nat.le_refl _⟩
      · cases h
    · cases h
  · split at h
    · split at h <;> cases h; exact ⟨Nat.le_refl _, Nat.le_refl _⟩
    · cases h
  · split at h
    · rename_i hs; cases h; exact hp_grow hs
    · cases h
  · split at h <;> cases h
  · split at h <;> cases h
  · split at h
    · split at h <;> cases h
    · cases h
  · cases h
theorem run_grow : ∀ (n d m j : Nat) (al : List (Option Value)) (st : List Value) (σ : qq_S) (o : qq_O) (σf : qq_S), qq_run n d m j al st σ = some (o, σf) → sz_S σ ≤ sz_S σf ∧ su_S σ ≤ su_S σf := by
  intro n
  induction n with
  | zero => intro d m j al st σ o σf h; simp [qq_run] at h
  | succ n ih =>
    intro d m j al st σ o σf h
    rw [qq_run] at h
    split at h
    · cases h
    · rename_i e he
      split at h
      · cases h
      · rename_i j' ls' st' σ' hs
        obtain ⟨g1, g2⟩ := step_grow hs
        obtain ⟨g3, g4⟩ := ih _ _ _ _ _ _ _ _ h
        exact ⟨Nat.le_trans g1 g3, Nat.le_trans g2 g4⟩
      · rename_i c args rest hs
        split at h
        · cases h
        · rename_i d'
          split at h
          · cases h
          · rename_i v σ' hr
            obtain ⟨g1, g2⟩ := ih _ _ _ _ _ _ _ _ hr
            obtain ⟨g3, g4⟩ := ih _ _ _ _ _ _ _ _ h
            exact ⟨Nat.le_trans g1 g3, Nat.le_trans g2 g4⟩
          · rename_i x σ' hr
            obtain ⟨g1, g2⟩ := ih _ _ _ _ _ _ _ _ hr
            split at h
            · cases h; exact ⟨g1, g2⟩
            · split at h
              · cases h
              · obtain ⟨g3, g4⟩ := ih _ _ _ _ _ _ _ _ h
                exact ⟨Nat.le_trans g1 g3, Nat.le_trans g2 g4⟩
      · cases h; exact ⟨Nat.le_refl _, Nat.le_refl _⟩
      · cases h; exact ⟨Nat.le_add_right _ _, Nat.le_add_right _ _⟩
