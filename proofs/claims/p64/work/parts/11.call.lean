/-! CALLS: contracts by the abstract run, and what the tables must hold -/
def qq_y (m : Nat) : MethodName := match qq_me[m]? with | some x => x.1 | none => ⟨"", "", ""⟩
def qq_cd (m : Nat) : ByteArray := match qq_me[m]? with | some x => x.2.1 | none => ⟨#[]⟩
def qq_hh (m : Nat) : List (Nat × Nat × Nat × Nat) := match qq_me[m]? with | some x => x.2.2.2.2.1 | none => []
def qq_pc (m j : Nat) : Nat := match qq_T m j with | some e => e.1 | none => 0
def qq_rm (d mc ms : Nat) : Room := { frames := d + 8, cells := mc, slots := ms, locals := 46 * d + 110 }
def qq_Pc (X : qq_X) (av : List Value) (σ : qq_S) : Array Value → State → Prop := fun v U => v = (av.map (rv_ X)).toArray ∧ qq_Fx X U ∧ qq_Hp X σ U.heap
def qq_Qc (X : qq_X) (o : qq_O) (σ : qq_S) : Array Value → State → Outcome → State → Prop := fun _ _ oc t => (∃ r, o = .inl r ∧ oc = .returned (r.map (rv_ X))) ∧ qq_Hp X σ t.heap
def qq_XC (X : qq_X) (o : qq_O) (σ : qq_S) : String → State → State → Prop := fun E _ t => (∃ x q, o = .inr x ∧ qq_ex[x]? = some q ∧ q.1 = E) ∧ qq_Hp X σ t.heap
theorem Pc_blind (X : qq_X) (av : List Value) (σ : qq_S) : FrameBlind (qq_Pc X av σ) := fun a U g mk h => ⟨h.1, Fx_moved (U := U.calling g mk a) h.2.1 (State.WarmedH.refl U), h.2.2⟩
/-- a method's contract at one state: with its own words alone -/
def qq_Met (l : Launch) (X : qq_X) (d m : Nat) (av : List Value) (σ : qq_S) (o : qq_O) (σ' : qq_S) : Prop :=
  vx_Met l (qq_y m) [Cond.code (qq_y m) (qq_cd m) (qq_maxL m) (qq_ret m)] (qq_rm d (sz_S σ' - sz_S σ) (su_S σ' - su_S σ)) (qq_Pc X av σ) (qq_Qc X o σ') (qq_XC X o σ') (sz_S σ' - sz_S σ) (su_S σ' - su_S σ) (fun q : Nat => xb_ X ≤ q)
def qq_MetW (l : Launch) (X : qq_X) (d m : Nat) (av : List Value) (σ : qq_S) (o : qq_O) (σ' : qq_S) : Prop :=
  Met l (qq_y m) [Cond.codeWith (qq_y m) (qq_cd m) (qq_maxL m) (qq_ret m) (qq_hh m)] (qq_rm d (sz_S σ' - sz_S σ) (su_S σ' - su_S σ)) (qq_Pc X av σ) (qq_Qc X o σ') (sz_S σ' - sz_S σ) (su_S σ' - su_S σ) (fun q : Nat => xb_ X ≤ q)
section QCA
variable {p : Program} {l : Launch} {e : Env} {R : Room} {s : State} {m : MethodId} {args : Array Value} {below : List Frame} {meth : Method} {c : Code} {H : Heap} {locs : List Loc} {cells slots : Nat} {Q : State → Prop}
variable {cc : ByteArray} {pc : Nat} {ls : Array Slot} {rest st0 : List Value} {X : qq_X} {σ σ' : qq_S} {mc ms : Nat} {o : qq_O} {av : Array Value}
theorem so_ldcwS (hx : p.tables.exec = Jvm.exec) (hb : c.code = cc) (hF : qq_Fx X s) {own : String} (hown : s.vm.findClass own = some m.cls) {i ix : Nat} {q : String × Nat × String × Nat} (hq : qq_strs[i]? = some q) (ho : q.1 = own) (hi : q.2.1 = ix) (hid : q.2.2.2 < qq_K0) (hd : decode cc pc = .ok (.ldc_w ix, 3))
    (kk : W p l e R s m args below meth c H locs cells slots Q (F0 m (pc + 3) ls (rv_ X (.ref q.2.2.2) :: rest))) : W p l e R s m args below meth c H locs cells slots Q (F0 m pc ls rest) := by
  obtain ⟨a, h1, h2⟩ := hF.2.2.2.2.1 i q hq
  have e1 : rv_ X (.ref q.2.2.2) = .ref a := by simp only [rv_, ro_con hid, h1]; rfl
  rw [e1] at kk
  rw [ho, hi] at h2
  obtain ⟨k, cf, i9, a', hk, hcf, hcp, -, hr, hev'⟩ := Cond.stringRef_spec (args := #[]) hown h2.1
  cases h2.2.symm.trans hev'
  intro T hT Xs
  obtain ⟨t, a1, b1⟩ := kk T hT Xs
  refine ⟨t, ?_, b1⟩
  obtain ⟨k', hk', he⟩ := Xs.warmed.alike.2.2 _ _ hk
  have hr' : k'.resolved[ix]? = some (some (.string a)) := by
    rcases Xs.warmed.entry hk hk' ix with h | ⟨h, -⟩
    · rw [h]; exact hr
    · rw [hr] at h; cases h
  have hdg : decode c.code pc = .ok (.ldc_w ix, 3) := by rw [hb]; exact hd
  jvm_step Xs.here [hx, hdg, ldc_w.wp_string (e := e) (s := T) (f := F0 m pc ls rest) Xs.here.top hk' (by rw [he]; exact hcf) hcp hr']
  exact a1
/-- behind a call -/
theorem so_back (hr : vx_Run p l e R s m args below meth c H locs cells slots mc ms (F0 m pc ls st0) (rest.map (rv_ X)) (qq_Qc X o σ' av) (qq_XC X o σ') (fun q : Nat => xb_ X ≤ q)) (hlo : ∀ z ∈ locs, xb_ X ≤ z.base)
    (kr : ∀ (v : Option Value) (H' : Heap) (locs' : List Loc), o = .inl v → qq_Hp X σ' H' → (∀ z ∈ locs', xb_ X ≤ z.base) → W p l e R s m args below meth c H' locs' (cells + mc) (slots + ms) Q (F0 m (pc + 3) ls ((v.toList ++ rest).map (rv_ X))))
    (kx : ∀ (x : Nat) (q9 : String × Nat × Nat × List String) (z : Addr) (ce : Cell) (H' : Heap) (locs' : List Loc), o = .inr x → qq_ex[x]? = some q9 → qq_Hp X σ' H' → (∀ z ∈ locs', xb_ X ≤ z.base) → H'[z]? = some ce → ce.vm = .none → s.vm.findClass q9.1 = some ce.cls → vx_W p l e R s m args below meth c H' locs' (cells + mc) (slots + ms) Q (F0 m pc ls (rest.map (rv_ X))) z) :
    W p l e R s m args below meth c H locs cells slots Q (F0 m pc ls st0) := by
  intro T hT Xs
  rcases hr T hT Xs with ⟨v, st₀, t, T', L, h0, X', hL, e1, e2, ⟨⟨r, ho, hv⟩, hp⟩, st⟩ | ⟨q, st₀, t, T', L, E, ce, h0, X', hL, e1, e2, ⟨⟨x, q9, ho, hq9, hE⟩, hp⟩, hce, hcv, hcl, st⟩
  · cases hv
    obtain ⟨t2, a1, b1⟩ := kr r T'.heap (locs ++ L) ho (by rw [e1]; exact hp) (fun z hz => by
      rcases List.mem_append.mp hz with h | h
      · exact hlo z h
      · exact hL z h) T' rfl X'
    refine ⟨t2, st t2 ?_, b1⟩
    rw [List.map_append] at a1
    cases r <;> exact a1
  · subst hE
    obtain ⟨t2, a1, b1⟩ := kx x q9 q ce T'.heap (locs ++ L) ho hq9 (by rw [e1]; exact hp) (fun z hz => by
      rcases List.mem_append.mp hz with h | h
      · exact hlo z h
      · exact hL z h) (by rw [e1]; exact hce) hcv hcl T' rfl X'
    exact ⟨t2, st.trans a1, b1⟩
theorem so_backW (hr : va_Run p l e R s m args below meth c H locs cells slots mc ms (F0 m pc ls st0) (rest.map (rv_ X)) (qq_Qc X o σ' av) (fun q : Nat => xb_ X ≤ q)) (hlo : ∀ z ∈ locs, xb_ X ≤ z.base)
    (kr : ∀ (v : Option Value) (H' : Heap) (locs' : List Loc), o = .inl v → qq_Hp X σ' H' → (∀ z ∈ locs', xb_ X ≤ z.base) → W p l e R s m args below meth c H' locs' (cells + mc) (slots + ms) Q (F0 m (pc + 3) ls ((v.toList ++ rest).map (rv_ X)))) :
    W p l e R s m args below meth c H locs cells slots Q (F0 m pc ls st0) := by
  intro T hT Xs
  obtain ⟨v, st₀, t, T', L, h0, X', hL, e1, e2, ⟨⟨r, ho, hv⟩, hp⟩, st⟩ := hr T hT Xs
  cases hv
  obtain ⟨t2, a1, b1⟩ := kr r T'.heap (locs ++ L) ho (by rw [e1]; exact hp) (fun z hz => by
    rcases List.mem_append.mp hz with h | h
    · exact hlo z h
    · exact hL z h) T' rfl X'
  refine ⟨t2, st t2 ?_, b1⟩
  rw [List.map_append] at a1
  cases r <;> exact a1
end QCA
