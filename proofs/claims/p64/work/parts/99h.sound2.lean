/-! FRAMES BY FUEL, but for two methods that have a law of their own -/
section QSP
variable {l : Launch}
theorem so_frame2 (hst : l.stackTraces = false) (hxw : (qq_ex.all qq_xw) = true) (hlen : ∀ m, (qq_hn m).length = (qq_hh m).length) (hok : ∀ (m : Nat) (e : qq_E), qq_T m 0 = some e → m ≠ 8 → m ≠ 9 → qq_Ok m ∧ e.1 = 0) (hnc : ∀ (m j : Nat) (e : qq_E), qq_T m j = some e → qq_grp e.2.1 e.2.2.2 = 10 → ∀ (k9 c9 : Nat) (tl9 : List Nat), e.2.2.2 = k9 :: c9 :: tl9 → c9 ≠ 8 ∧ c9 ≠ 9) :
    ∀ (n d m j : Nat) (al : List (Option Value)) (st : List Value) (σ : qq_S) (o : qq_O) (σf : qq_S), qq_run n d m j al st σ = some (o, σf) → qq_Ok m →
    ∀ {p : Program} {e : Env} {R : Room} {s : State} {mm : MethodId} {args : Array Value} {below : List Frame} {meth : Method} {c : Code} {H : Heap} {locs : List Loc} {cells slots mc ms : Nat} {X : qq_X} {ls : Array Slot} {Q : State → Prop},
    p.tables.exec = Jvm.exec → c.code = qq_cd m → c.maxLocals = qq_maxL m → al.length = qq_maxL m → qq_Fx X s → (∃ σ0, qq_Hp X σ0 s.heap ∧ sz_S σ0 ≤ sz_S σ) → qq_Hp X σ H → (∀ z ∈ locs, xb_ X ≤ z.base) → s.vm.findClass (qq_y m).cls = some mm.cls → meth.name = (qq_y m).name → meth.locks = false →
    c.exceptionTable.toList = tableOf (qq_hh m) → qq_Lr X al ls → d + 8 ≤ R.frames → 46 * d + 110 ≤ R.locals → cells + (sz_S σf - sz_S σ) ≤ mc → mc ≤ R.cells → slots + (su_S σf - su_S σ) ≤ ms → ms ≤ R.slots →
    ((∃ (Qc : Array Value → State → Outcome → State → Prop), Q = vx_MQ below Qc (qq_XC X o σf) args s mc ms (fun q : Nat => xb_ X ≤ q)) ∨ ∀ x, o ≠ .inr x) →
    (∀ (v : Option Value) (i : Instr) (st' : List Value) (pc : Nat) (H' : Heap) (locs' : List Loc) (ls' : Array Slot), o = .inl v → qq_rt m i st' = some v → decode (qq_cd m) pc = .ok (i, 1) → qq_Hp X σf H' → (∀ z ∈ locs', xb_ X ≤ z.base) →
      W p l e R s mm args below meth c H' locs' mc ms Q (F0 mm pc ls' (st'.map (rv_ X)))) →
    W p l e R s mm args below meth c H locs cells slots Q (F0 mm (qq_pc m j) ls (st.map (rv_ X))) := by
  intro n
  induction n with
  | zero => intro d m j al st σ o σf h; simp [qq_run] at h
  | succ n ih =>
    intro d m j al st σ o σf hrun hokm p e R s mm args below meth c H locs cells slots mc ms X ls Q hx hb hml hal hF hs0 hP hlo hown hname hlocks htab hL hfr hlc hc hmc hs hms hQ hret
    obtain ⟨hgrow1, hgrow2⟩ := run_grow _ _ _ _ _ _ _ _ _ hrun
    rw [qq_run] at hrun
    split at hrun
    · cases hrun
    rename_i en hen
    obtain ⟨hdec, hokp⟩ := hokm.1 j en hen
    have hpcj : qq_pc m j = en.1 := by simp only [qq_pc, hen]
    rw [hpcj]
    have h0 : ro_ X 0 = none := by rw [ro_con (by decide)]; exact hF.2.2.2.2.2.2.2.2.2.2.1
    have hn0 : ∀ a : Nat, a ≠ 0 → a ≠ 2 → ∃ q, ro_ X a = some q := by
      intro a g1 g2
      by_cases hK : a < qq_K0
      · rw [ro_con hK]; exact hF.2.2.2.2.2.2.2.2.2.2.2 a g1 g2 hK
      · exact ⟨_, ro_own (by omega)⟩
    have hsz : ls.size = c.maxLocals := by rw [hml, ← hal]; exact hL.1
    split at hrun
    · cases hrun
    · -- goes on
      rename_i j' ls' st' σ' hstep
      obtain ⟨g1, g2⟩ := step_grow hstep
      obtain ⟨g3, g4⟩ := run_grow _ _ _ _ _ _ _ _ _ hrun
      have hlen' := set_len hstep
      have go : ∀ (H' : Heap) (locs' : List Loc) (lsn : Array Slot) (pc' : Nat), qq_pc m j' = pc' → qq_Hp X σ' H' → (∀ z ∈ locs', xb_ X ≤ z.base) → qq_Lr X ls' lsn → W p l e R s mm args below meth c H' locs' (cells + (sz_S σ' - sz_S σ)) (slots + (su_S σ' - su_S σ)) Q (F0 mm pc' lsn (st'.map (rv_ X))) := by
        intro H' locs' lsn pc' hpc hP' hlo' hL'
        rw [← hpc]
        refine ih d m j' ls' st' σ' o σf hrun hokm hx hb hml (hlen'.trans hal) hF ?_ hP' hlo' hown hname hlocks htab hL' hfr hlc (by omega) hmc (by omega) hms hQ hret
        obtain ⟨σ0, q1, q2⟩ := hs0
        exact ⟨σ0, q1, Nat.le_trans q2 g1⟩
      clear ih hret hQ
      unfold qq_step at hstep
      split at hstep
      · rename_i hg
        simp only [qq_okp, hg, Bool.and_eq_true, decide_eq_true_eq] at hokp
        rw [hokp.1] at hdec hokp
        split at hstep
        · rename_i v hv
          cases hstep
          exact so_cst hx hb hv h0 hdec (k_same rfl rfl (go H locs ls _ hokp.2 hP hlo hL))
        · cases hstep
      · rename_i hg
        simp only [qq_okp, hg, Bool.and_eq_true, decide_eq_true_eq] at hokp
        rw [hokp.1] at hdec hokp
        split at hstep
        · rename_i i t hv
          split at hstep
          · rename_i v hv2
            split at hstep
            · rename_i ht
              cases hstep
              exact so_ld hx hb hv hv2 ht hL hdec (k_same rfl rfl (go H locs ls _ hokp.2 hP hlo hL))
            · cases hstep
          · cases hstep
        · cases hstep
      · rename_i hg
        simp only [qq_okp, hg, Bool.and_eq_true, decide_eq_true_eq] at hokp
        rw [hokp.1] at hdec hokp
        split at hstep
        · rename_i i t v st9 hv
          split at hstep
          · rename_i ht
            cases hstep
            exact so_st hx hb hv ht.1 ht.2 hL hdec (fun lsn hLn => k_same rfl rfl (go H locs lsn _ hokp.2 hP hlo hLn))
          · cases hstep
        · cases hstep
      · rename_i hg
        simp only [qq_okp, hg, Bool.and_eq_true, decide_eq_true_eq] at hokp
        rw [hokp.1] at hdec hokp
        split at hstep
        · split at hstep
          · rename_i v hv
            cases hstep
            exact so_un hx hb hv hdec (k_same rfl rfl (go H locs ls _ hokp.2 hP hlo hL))
          · cases hstep
        · cases hstep
      · rename_i hg
        simp only [qq_okp, hg, Bool.and_eq_true, decide_eq_true_eq] at hokp
        rw [hokp.1] at hdec hokp
        split at hstep
        · split at hstep
          · rename_i v hv
            cases hstep
            exact so_bin hx hb hv hdec (k_same rfl rfl (go H locs ls _ hokp.2 hP hlo hL))
          · cases hstep
        · cases hstep
      · rename_i hg
        simp only [qq_okp, hg, Bool.and_eq_true, decide_eq_true_eq] at hokp
        rw [hokp.1] at hdec hokp
        split at hstep
        · rename_i st9 hv
          cases hstep
          exact so_shf hx hb hv hdec (k_same rfl rfl (go H locs ls _ hokp.2 hP hlo hL))
        · cases hstep
      · rename_i hg
        simp only [qq_okp, hg] at hokp
        split at hstep
        · rename_i b st9 t hv ht
          rw [ht] at hokp
          simp only [Bool.and_eq_true, decide_eq_true_eq] at hokp
          obtain ⟨⟨k1, k2⟩, k3⟩ := hokp
          rw [k2] at hdec
          cases hstep
          refine so_br hx hb h0 hn0 hv rfl hdec k1 (k_same rfl rfl (go H locs ls _ ?_ hP hlo hL))
          cases b with
          | true => rfl
          | false =>
            simp only [Bool.or_eq_true, decide_eq_true_eq] at k3
            rcases k3 with k3 | k3
            · exfalso
              split at k3
              · rename_i hi
                rw [hi] at hv
                cases hv
              · cases k3
            · exact k3
        · cases hstep
      · rename_i hg
        simp only [qq_okp, hg, Bool.and_eq_true, decide_eq_true_eq] at hokp
        split at hstep
        · rename_i x st9
          split at hstep
          · rename_i k hv
            split at hstep
            · rename_i t ht
              obtain ⟨⟨k1, k2⟩, k3⟩ := hokp
              obtain ⟨off, hoff⟩ : ∃ off, (qq_so en.2.1)[k]? = some off := by
                have q1 := (List.getElem?_eq_some_iff.mp ht).1
                exact ⟨_, List.getElem?_eq_getElem (by omega)⟩
              have k4 := List.all_eq_true.mp k3 (off, t) (List.mem_of_getElem? (i := k) (by rw [List.getElem?_zip_eq_some]; exact ⟨hoff, ht⟩))
              simp only [decide_eq_true_eq] at k4
              cases hstep
              exact so_sw hx hb hv k1 hoff hdec k4 (k_same rfl rfl (go H locs ls _ rfl hP hlo hL))
            · cases hstep
          · cases hstep
        · cases hstep
      · rename_i hg
        simp only [qq_okp, hg, Bool.and_eq_true, decide_eq_true_eq] at hokp
        rw [hokp.1] at hdec hokp
        split at hstep
        · rename_i i k hi
          split at hstep
          · rename_i x hv
            cases hstep
            rw [hi] at hdec hokp
            exact so_iinc hx hb hv hL hdec (fun lsn hLn => k_same rfl rfl (go H locs lsn _ hokp.2 hP hlo hLn))
          · cases hstep
        · cases hstep
      · rename_i hg
        simp only [qq_okp, hg, Bool.and_eq_true, decide_eq_true_eq] at hokp
        obtain ⟨⟨k1, k2⟩, k3⟩ := hokp
        rw [k2] at hdec k3
        split at hstep
        · rename_i st9 σ9 hv
          cases hstep
          exact so_g9 hx hb hF hP hlo hown hname hv k1 hdec hsz (by omega) (by omega) (by omega) (by omega) (fun H' locs' u1 u2 => go H' locs' ls _ k3 u1 u2 hL)
        · cases hstep
      · split at hstep <;> cases hstep
      · split at hstep <;> cases hstep
      · split at hstep
        · split at hstep <;> cases hstep
        · cases hstep
      · cases hstep
    · -- a call
      rename_i cal av rest hstep
      obtain ⟨hg, hcal⟩ := step_call hstep
      split at hrun
      · cases hrun
      rename_i d'
      -- the callee's contract
      have hslm : (qq_sl av).length ≤ qq_maxL cal := (cal_stack (X := X) hcal).choose_spec.choose_spec.choose_spec.choose_spec.2.2.1
      have hmet : ∀ (o1 : qq_O) (σ1 : qq_S), qq_run n d' cal 0 (qq_ent (qq_maxL cal) av) [] σ = some (o1, σ1) → (qq_hn cal = [] → qq_Met l X d' cal av σ o1 σ1) ∧ (qq_hn cal ≠ [] → qq_MetW l X d' cal av σ o1 σ1) := by
        intro o1 σ1 hr1
        obtain ⟨e0, he0⟩ : ∃ e0, qq_T cal 0 = some e0 := by
          cases n with
          | zero => simp [qq_run] at hr1
          | succ n =>
            rw [qq_run] at hr1
            split at hr1
            · cases hr1
            · exact ⟨_, by assumption⟩
        obtain ⟨kd9, n9, c9, tl9, e9, -⟩ := cal_stack (X := X) hcal
        obtain ⟨nc8, nc9⟩ := hnc m j en hen hg _ _ _ e9
        obtain ⟨hokc, hpc0⟩ := hok cal e0 he0 nc8 nc9
        have hpc : qq_pc cal 0 = 0 := by simp only [qq_pc, he0]; exact hpc0
        refine ⟨fun hh => ?_, fun hh => ?_⟩
        · refine vx_ofW hokc.2.2.1 rfl ?_
          intro p e s m args below meth c s₁ B hml htb hPc
          obtain ⟨hargs, hF', hP'⟩ := hPc
          rw [hargs, lg_entry_eq]
          refine Eq.mp (congrArg (fun z => W p l e _ s m _ below meth c s.heap [] 0 0 _ (F0 m z _ _)) hpc) ?_
          refine ih d' cal 0 _ [] σ o1 σ1 hr1 hokc (R := qq_rm d' (sz_S σ1 - sz_S σ) (su_S σ1 - su_S σ)) (mc := sz_S σ1 - sz_S σ) (ms := su_S σ1 - su_S σ) (X := X) B.exec B.bytes hml (by simp [qq_ent]; omega) hF' ⟨σ, hP', Nat.le_refl _⟩ hP' (fun z hz => nomatch hz) (findClass_of_methodNamed B.named) ?_ B.notSynchronized ?_ (Lr_ent X hslm) (Nat.le_refl _) (Nat.le_refl _) (Nat.le_of_eq (Nat.zero_add _)) (Nat.le_refl _) (Nat.le_of_eq (Nat.zero_add _)) (Nat.le_refl _) (Or.inl ⟨_, rfl⟩) ?_
          · exact (name_of_methodNamed B.named B.method).1
          · have h9 : qq_hh cal = [] := List.length_eq_zero_iff.mp (by rw [← hlen cal, hh]; rfl)
            rw [h9]
            exact List.eq_nil_iff_forall_not_mem.mpr htb
          · intro v i st' pc H' locs' ls' ho hrt hd hP1 hlo1
            rw [ho]
            exact vx_ret (so_ret B.exec B.bytes hrt B.returns B.notSynchronized hP1 hlo1 hd)
        · obtain ⟨v1, hv1⟩ := run_hn _ _ _ _ _ _ _ _ _ hr1 hh
          refine va_MetW hokc.2.2.1 rfl ?_
          intro p e s m args below meth c s₁ B hml hPc
          obtain ⟨hargs, hF', hP'⟩ := hPc
          rw [hargs, lg_entry_eq]
          refine Eq.mp (congrArg (fun z => W p l e _ s m _ below meth c s.heap [] 0 0 _ (F0 m z _ _)) hpc) ?_
          refine ih d' cal 0 _ [] σ o1 σ1 hr1 hokc (R := qq_rm d' (sz_S σ1 - sz_S σ) (su_S σ1 - su_S σ)) (mc := sz_S σ1 - sz_S σ) (ms := su_S σ1 - su_S σ) (X := X) B.exec B.bytes hml (by simp [qq_ent]; omega) hF' ⟨σ, hP', Nat.le_refl _⟩ hP' (fun z hz => nomatch hz) (findClass_of_methodNamed B.named) ?_ B.notSynchronized ?_ (Lr_ent X hslm) (Nat.le_refl _) (Nat.le_refl _) (Nat.le_of_eq (Nat.zero_add _)) (Nat.le_refl _) (Nat.le_of_eq (Nat.zero_add _)) (Nat.le_refl _) (Or.inr (fun x hx => by rw [hv1] at hx; cases hx)) ?_
          · exact (name_of_methodNamed B.named B.method).1
          · exact vx_table (x := qq_y cal) B (atoms_spec (ws := [Cond.codeWith (qq_y cal) (qq_cd cal) (qq_maxL cal) (qq_ret cal) (qq_hh cal)]) B.pre _ List.mem_cons_self)
          · intro v i st' pc H' locs' ls' ho hrt hd hP1 hlo1
            rw [ho]
            exact so_ret B.exec B.bytes hrt B.returns B.notSynchronized hP1 hlo1 hd
      simp only [qq_okp, hg] at hokp
      have hokp : qq_okc m en.2.1 en.2.2.2 = true ∧ en.2.2.1 = 3 ∧ qq_pc m (j + 1) = en.1 + en.2.2.1 ∧ qq_cv m j en.1 = true := by
        split at hokp
        · rename_i hl
          rw [hl] at hcal
          unfold qq_cal at hcal
          split at hcal
          · rename_i kind callee n9 c9 tl9 hl9
            cases hl9
            obtain ⟨q1, -⟩ := qq_if_some hcal
            omega
          · cases hcal
        · simp only [Bool.and_eq_true, decide_eq_true_eq] at hokp
          exact ⟨hokp.1.1.1, hokp.1.1.2, hokp.1.2, hokp.2⟩
      obtain ⟨k1, k2, k3, k4⟩ := hokp
      rw [k2] at hdec k3
      split at hrun
      · cases hrun
      · -- it returns
        rename_i v σ1 hr1
        obtain ⟨u1, u2⟩ := run_grow _ _ _ _ _ _ _ _ _ hr1
        obtain ⟨u3, u4⟩ := run_grow _ _ _ _ _ _ _ _ _ hrun
        obtain ⟨m1, m2⟩ := hmet _ _ hr1
        refine so_call (d := d') hx hb hF hP hlo hown hcal k1 hdec hsz (by omega) (by omega) m1 m2 (by omega) (by omega) ?_ (fun x q9 z ce H' locs' ho => by cases ho)
        intro v' H' locs' ho hP' hlo'
        cases ho
        rw [← k3]
        refine ih (d' + 1) m (j + 1) al (v.toList ++ rest) σ1 o σf hrun hokm hx hb hml hal hF ?_ hP' hlo' hown hname hlocks htab hL hfr hlc (by omega) hmc (by omega) hms hQ hret
        obtain ⟨σ0, q1, q2⟩ := hs0
        exact ⟨σ0, q1, Nat.le_trans q2 u1⟩
      · -- it throws
        rename_i x σ1 hr1
        obtain ⟨u1, u2⟩ := run_grow _ _ _ _ _ _ _ _ _ hr1
        obtain ⟨m1, m2⟩ := hmet _ _ hr1
        simp only [qq_cv, Bool.and_eq_true, beq_iff_eq, List.all_eq_true, decide_eq_true_eq] at k4
        obtain ⟨-, k5⟩ := k4
        split at hrun
        · -- not here
          rename_i hhn
          cases hrun
          refine so_call (d := d') hx hb hF hP hlo hown hcal k1 hdec hsz (by omega) (by omega) m1 m2 (by omega) (by omega) (fun v H' locs' ho => by cases ho) ?_
          intro x' q9 z ce H' locs' ho hq9 hP' hlo' hce hcv hcl
          cases ho
          rcases hQ with ⟨Qc, rfl⟩ | hQ
          · have h9 : qq_hh m = [] := List.length_eq_zero_iff.mp (by rw [← hlen m, hhn]; rfl)
            rw [h9] at htab
            exact vx_out (by rw [htab]; exact fun z hz => nomatch hz) hlocks hce hcv hcl (fun t ht hA => ⟨⟨x, q9, rfl, hq9, rfl⟩, by rw [ht]; exact hP'⟩) hlo' (by omega) (by omega)
          · exact absurd rfl (hQ x)
        · rename_i hhn
          split at hrun
          · cases hrun
          · rename_i hd hhd
            obtain ⟨u3, u4⟩ := run_grow _ _ _ _ _ _ _ _ _ hrun
            refine so_call (d := d') hx hb hF hP hlo hown hcal k1 hdec hsz (by omega) (by omega) m1 m2 (by omega) (by omega) (fun v H' locs' ho => by cases ho) ?_
            intro x' q9 z ce H' locs' ho hq9 hP' hlo' hce hcv hcl
            cases ho
            have hoh := hokm.2.2.2
            simp only [qq_okh, List.all_eq_true] at hoh
            obtain ⟨pre, xe, suf, hh0, e1, e2, e3, e4⟩ := han_split _ _ (hlen m) hhd
            have o1 := hoh _ e2
            split at e3
            · rename_i hcnd
              split at e3
              · rename_i eh heh
                simp only [Bool.and_eq_true, decide_eq_true_eq] at o1
                obtain ⟨⟨o2, o3⟩, o4⟩ := o1
                rw [hcnd.2.2, hq9] at o3
                simp only [Bool.and_eq_true] at o3
                rw [heh] at o4
                simp only [Bool.and_eq_true, decide_eq_true_eq] at o4
                obtain ⟨⟨⟨o5, o6⟩, o7⟩, o8⟩ := o4
                split at e3
                · rename_i i9 hi9
                  split at e3
                  · rename_i hlt9
                    cases e3
                    have hdh : decode (qq_cd m) eh.1 = .ok (eh.2.1, qq_len eh.2.1) := by
                      rw [← o6]; exact (hokm.1 _ _ heh).1
                    refine vx_catch hown pre xe suf (htab.trans e1) ?_ ?_ o2 (has_word hF o3.1 (Or.inl rfl)) (has_word hF o3.2 (Or.inr rfl)) hce hcv hcl ?_
                    · intro z9 hz9
                      obtain ⟨h1, f1, f2⟩ := e4 z9 hz9
                      have p1 := k5 _ f1
                      have p2 := hoh _ f1
                      simp only [Bool.and_eq_true, decide_eq_true_eq] at p2
                      obtain ⟨⟨p3, p4⟩, p5⟩ := p2
                      split at f2
                      · rename_i hcnd2
                        exfalso
                        split at f2
                        · rename_i eh2 heh2
                          rw [heh2] at p5
                          simp only [Bool.and_eq_true] at p5
                          obtain ⟨-, p8⟩ := p5
                          split at f2
                          · rename_i i8 hi8
                            rw [hi8] at p8
                            simp only [decide_eq_true_eq] at p8
                            split at f2
                            · cases f2
                            · rename_i hnl
                              exact hnl (by rw [hal]; exact p8)
                          · rename_i hno
                            split at p8
                            · rename_i i8 hi8
                              exact hno _ hi8
                            · cases p8
                        · rename_i hno
                          rw [hno] at p5
                          cases p5
                      · rename_i hcnd2
                        by_cases hcv9 : h1.1 ≤ j ∧ j < h1.2.1
                        · right
                          refine ⟨p3, ?_⟩
                          split at p4
                          · rename_i x9 hx9
                            simp only [Bool.and_eq_true] at p4
                            refine ⟨x9.1, has_word hF p4.1 (Or.inl rfl), hF.2.2.2.2.2.2.2.1 x h1.2.2.1 q9 x9 hq9 hx9 (fun he => hcnd2 ⟨hcv9.1, hcv9.2, he.symm⟩)⟩
                          · cases p4
                        · left
                          have p1 : covers z9 en.1 = decide (h1.1 ≤ j ∧ j < h1.2.1) := p1
                          rw [p1, decide_eq_false hcv9]
                    · have p1 : covers xe en.1 = decide (hh0.1 ≤ j ∧ j < hh0.2.1) := k5 _ e2
                      rw [p1]; exact decide_eq_true ⟨hcnd.1, hcnd.2.1⟩
                    · have hhp : xe.handlerPc = eh.1 := o5.symm
                      rw [hhp]
                      refine so_away hx hb (rest := []) hi9 (by exact hlt9) hL hdh (fun lsn hLn => ?_)
                      have o7' : qq_pc m (hh0.2.2.2 + 1) = eh.1 + qq_len eh.2.1 := by rw [← o6]; exact o7
                      rw [← o7']
                      refine ih (d' + 1) m _ _ [] σ1 o σf hrun hokm hx hb hml ?_ hF ?_ hP' hlo' hown hname hlocks htab hLn hfr hlc (by omega) hmc (by omega) hms hQ hret
                      · rw [List.length_set, qq_set_len]; exact hal
                      · obtain ⟨σ0, q1, q2⟩ := hs0
                        exact ⟨σ0, q1, Nat.le_trans q2 u1⟩
                  · cases e3
                · cases e3
              · cases e3
            · cases e3
    · -- returns
      rename_i v hstep
      obtain ⟨hg, hrt⟩ := step_ret hstep
      cases hrun
      simp only [qq_okp, hg, decide_eq_true_eq] at hokp
      rw [hokp] at hdec
      exact W.widen (by omega) (by omega) (hret v en.2.1 st en.1 H locs ls rfl hrt hdec hP hlo)
    · -- throws
      rename_i x hstep
      obtain ⟨hg, ⟨w, hl⟩, hcat, hhn⟩ := step_thr hstep
      cases hrun
      rcases hQ with ⟨Qc, rfl⟩ | hQ
      · have h9 : qq_hh m = [] := List.length_eq_zero_iff.mp (by rw [← hlen m, hhn]; rfl)
        rw [h9] at htab
        obtain ⟨ik, hik⟩ := grp_new hg
        have hg2 : qq_grp (.new ik) [1, x, w] = 12 := by rw [← hik, ← hl]; exact hg
        simp only [qq_okp, hl, hik, hg2] at hokp
        rw [hik] at hdec
        · skip
          split at hokp
          · rename_i q hq
            simp only [Bool.and_eq_true, decide_eq_true_eq] at hokp
            obtain ⟨⟨⟨r1, r2⟩, r3⟩, r4⟩ := hokp
            split at r4
            · rename_i a1 a2 a3 ha1 ha2 ha3
              simp only [Bool.and_eq_true, decide_eq_true_eq] at r4
              obtain ⟨⟨⟨⟨⟨⟨⟨⟨b1, b2⟩, b3⟩, b4⟩, b5⟩, b6⟩, b7⟩, b8⟩, b9⟩ := r4
              have d1 := (hokm.1 _ _ ha1).1
              have d2 := (hokm.1 _ _ ha2).1
              have d3 := (hokm.1 _ _ ha3).1
              rw [b1, b2, b3] at d1
              rw [b4, b5, b6] at d2
              rw [b7, b8, b9] at d3
              rw [r3] at hdec
              have hxq := List.all_eq_true.mp hxw q (List.mem_of_getElem? hq)
              simp only [qq_xw, Bool.and_eq_true, List.all_eq_true, decide_eq_true_eq, Bool.or_eq_true] at hxq
              obtain ⟨⟨⟨x1, x2⟩, x3⟩, x4⟩ := hxq
              rw [r2] at hdec
              rw [r1] at hown
              have hw9 : ∀ w ∈ Cond.classLink "StatueChancery" q.2.1 q.1 :: Cond.initialized q.1 :: vx_at0 "StatueChancery" q.2.2.1 q.1 q.2.2.2, w.before args s = true := fun w hw => has_word hF (x1 w hw).1.2 (x1 w hw).2
              obtain ⟨σ0, q1, q2⟩ := hs0
              have hsH : ∀ q : Nat, q < xb_ X → s.heap[q]? = X.2.2.2.2[q]? := q1.2.2.1
              have hHs : H.size = xb_ X + (sz_S σ - qq_K0) := hP.2.1
              have hss : s.heap.size = xb_ X + (sz_S σ0 - qq_K0) := q1.2.1
              have hsg : sz_S (nw_S σ 1 (201, 0) 6) = sz_S σ + 1 := rfl
              have hsu : su_S (nw_S σ 1 (201, 0) 6) = su_S σ + 6 := rfl
              have hkp : ∀ a : Nat, a < X.2.2.2.2.size → ¬ (xb_ X ≤ a) → s.heap[a]? = X.2.2.2.2[a]? := fun a ha _ => hsH a ha
              refine qx_throw0 hx hb hst hown x2 x3 (hw9 _ List.mem_cons_self) (hw9 _ (List.mem_cons_of_mem _ List.mem_cons_self)) (fun w hw => hw9 w (List.mem_cons_of_mem _ (List.mem_cons_of_mem _ hw))) (fun w hw => (x1 w hw).1.1)
                (A := fun z : Nat => xb_ X ≤ z) (hF.2.2.2.2.2.2.2.2.1.kept hkp) (hF.2.2.2.2.2.2.2.2.2.1.kept hkp) ⟨by omega, fun a ha hA => ?_, hlo⟩ hsz hdec d1 d2 d3 (by rw [htab]; exact fun z hz => nomatch hz) (by rw [x4]; omega) (by rw [rv_cats, x4]; omega) (by omega) (by omega) hlocks ?_ hlo (by omega) (by omega)
              · have : a < xb_ X := by omega
                rw [hP.2.2.1 a this, hsH a this]
              · intro t hA ht1 ht2
                refine ⟨⟨x, q, rfl, hq, rfl⟩, hp_new hP (201, 0) 6 ht1 ht2 ?_⟩
                have hk : (kd_S (nw_S σ 1 (201, 0) 6) (sz_S σ)).1 = 201 := by
                  show (if sz_S σ ≤ sz_S σ ∧ sz_S σ < sz_S σ + 1 then ((201 : Nat), (0 : Nat)) else kd_S σ (sz_S σ)).1 = 201
                  rw [if_pos ⟨Nat.le_refl _, Nat.lt_succ_self _⟩]
                unfold qq_Ce
                rw [hk, if_neg (by omega), if_neg (by omega)]
                trivial
            · cases r4
          · cases hokp
      · exact absurd rfl (hQ x)
end QSP
