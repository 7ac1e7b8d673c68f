/-! THE LAW: writ, does -/
section DO
variable {d B n : Nat} {C : sC} {I I' : qq_I} {τ τ' : qq_R} {E : List (Nat × (Nat → Int32))} {P : qq_O → qq_I → qq_R → Prop}
theorem RP_bd {x : Option (qq_O × qq_S)} {k : Option Value → qq_S → Option (qq_O × qq_S)} {Q : qq_O → qq_I → qq_R → Prop} (h : RP x Q) (hk : ∀ o I τ, Q o I τ → ∃ v, o = .inl v ∧ RP (k v (I, τ)) P) : RP (bd x k) P := by
  obtain ⟨o, I', τ', h1, h2⟩ := h
  obtain ⟨v, rfl, h3⟩ := hk _ _ _ h2
  rw [h1, bd_ret]
  exact h3
theorem L_writ (h : LV E B n C I τ) {a : Nat} (ha : a < 100) : ∃ w, w < 1000000 ∧ LC (d + 42) 240 [.ref 70, .int (iN a)] I τ (some (.int (iN w))) (LV E B (n + 3) C) := by
  have hw := LV_w h
  have h8 := hw.2.2.1.1
  by_cases h0 : 0 < un (s_U (g_S C))
  · by_cases h9 : a < 9
    · have hm : a % un (s_U (g_S C)) < un (s_U (g_S C)) := Nat.mod_lt _ h0
      refine ⟨w_id (ug (s_U (g_S C)) (a % un (s_U (g_S C)))), id_bd hw hm, LC_of ?_⟩
      have hL := h
      rw [c_240, b_240_0]
      refine RP_gd (k70 hL) (LC_bd (L_dir hL (p_writCount (d := d + 1) hL.1) (rfl) hav0) ?_)
      clear hL
      intro I τ hL
      rw [vl_some, b_240_2]
      refine RP_y (by rw [iN_lt (by omega) (by omega)]; exact h0) (RP_y (by rw [iN_lt (by omega) (by omega)]; exact h9) ?_)
      refine RP_gd (k70 hL) (LC_bd (L_dir hL (p_writCount (d := d + 1) hL.1) (rfl) hav0) ?_)
      clear hL
      intro I τ hL
      rw [vl_some, b_240_10, iN_rem (by omega) h0 (by omega)]
      refine RP_gd (fun z => by have z : iN (un (s_U (g_S C))) = iN 0 := z; rw [iN_eq (by omega) (by omega)] at z; omega) ?_
      refine LC_bd (L_ask hL (p_writAt (d := d) hL.1 (iN (a % un (s_U (g_S C))))) (w_227 (iN (a % un (s_U (g_S C)))) (qi_writAt) (k70' hL)) (hav1 hav0)) ?_
      clear hL
      intro I τ hL
      rw [vl_some, b_240_12, b_240_14, qt_writAt hw hm]
      exact RP_ret ⟨rfl, hL⟩
    · refine ⟨a, by omega, LC_of ?_⟩
      have hL := h
      rw [c_240, b_240_0]
      refine RP_gd (k70 hL) (LC_bd (L_dir hL (p_writCount (d := d + 1) hL.1) (rfl) hav0) ?_)
      clear hL
      intro I τ hL
      rw [vl_some, b_240_2]
      refine RP_y (by rw [iN_lt (by omega) (by omega)]; exact h0) (RP_n (by rw [iN_lt (by omega) (by omega)]; exact h9) ?_)
      rw [b_240_13, b_240_14]
      exact RP_ret ⟨rfl, LV_up hL (by omega)⟩
  · refine ⟨a, by omega, LC_of ?_⟩
    have hL := h
    rw [c_240, b_240_0]
    refine RP_gd (k70 hL) (LC_bd (L_dir hL (p_writCount (d := d + 1) hL.1) (rfl) hav0) ?_)
    clear hL
    intro I τ hL
    rw [vl_some, b_240_2]
    refine RP_n (by rw [iN_lt (by omega) (by omega)]; exact h0) ?_
    rw [b_240_13, b_240_14]
    exact RP_ret ⟨rfl, LV_up hL (by omega)⟩
/-- a text of the law's own at q stands ready -/
def DS (E : List (Nat × (Nat → Int32))) (B n : Nat) (C : sC) (q : Nat) (l : List Nat) (I : qq_I) (τ : qq_R) : Prop := LV E B n C I τ ∧ cE (q :: (q + 1) :: eA E) (I, τ) ∧ Sg I τ q (q + 1) l
theorem DS_PC {D m q B' : Nat} {av : List Value} {o : qq_O} {C' : sC} {l : List Nat} (h : DS E B n C q l I τ) (hr : CC D m (.ref 70 :: av) (I, τ) = some (o, (I', τ'))) (hav : ∀ v ∈ av, ∃ x, v = .int x) (hp : PC I τ 70 308 B' I' τ' C') (hi : iS B' (g_S C')) : DS E B' (n + 1) C' q l I' τ' := by
  obtain ⟨h1, h2, h3⟩ := h
  have hz : 308 ≤ sz_S (I, τ) := h2.2.1
  obtain ⟨f1, f2, -⟩ := frm_CC hr (cE_clK h2) (fun v hm a e => Or.inl (by
    rcases List.mem_cons.mp hm with rfl | hm
    · cases e
      exact ⟨by omega, fun hm => by have := (h2.1 70 hm).1; omega⟩
    · obtain ⟨x, rfl⟩ := hav v hm
      cases e))
  have q1 := (h2.1 q List.mem_cons_self).2
  have q2 := (h2.1 (q + 1) (List.mem_cons_of_mem _ List.mem_cons_self)).2
  obtain ⟨a1, a2⟩ := f2.2 q q1
  obtain ⟨b1, b2⟩ := f2.2 (q + 1) q2
  obtain ⟨a2, a3⟩ := a2 (fun z => z.2 List.mem_cons_self)
  obtain ⟨b2, b3⟩ := b2 (fun z => z.2 (List.mem_cons_of_mem _ List.mem_cons_self))
  have a1 : tK τ' q = tK τ q := a1
  have a2 : I' q = I q := a2
  have a3 : tR τ' q 0 = tR τ q 0 := congrFun a3 0
  have b1 : tK τ' (q + 1) = tK τ (q + 1) := b1
  have b2 : I' (q + 1) = I (q + 1) := b2
  obtain ⟨s1, s2, s3, s4, s5, s6, s7⟩ := h3
  exact ⟨LV_PC h1 hr hav hp hi, cE_after h2 f1 f2, a1.trans s1, a3.trans s2, b1.trans s3, by rw [a2]; exact s4, s5, s6, fun i hi => by rw [b2]; exact s7 i hi⟩
theorem do_loop {q N9 : Nat} {l : List Nat} {C0 : sC} (hB : B + 1400 ≤ 900000) (hl : l.length ≤ 60) (hc : ∀ c ∈ l, 32 ≤ c ∧ c ≤ 126) :
    ∀ j k m n I τ, k + j = l.length → DS E B n (cT C0 (l.take k)) q l I τ → m ≤ 61 * k → n + j + 1 ≤ N9 → RP (RR (d + 43) 238 4 [some (.ref 70), some (.ref q), some (.int (iN m)), some (.int (iN k))] [] (I, τ)) (fun o I τ => ∃ v C', o = .inl (some (.int v)) ∧ AC C0 C' v ∧ LV E (B + 660) N9 C' I τ) := by
  intro j
  induction j with
  | zero =>
    intro k m n I τ hk hD hm hn
    obtain ⟨hL, h2, h3⟩ := hD
    have f14 : CC (d + 42) 14 [.ref q] (I, τ) = some (.inl (some (.int (iN l.length))), (I, τ)) := c_sLen (d := d + 41) h3
    have hT : l.take k = l := List.take_of_length_le (by omega)
    rw [hT] at hL
    rw [b_238_4, f14]
    refine RP_gd (congrArg Prod.fst h3.1) ?_
    rw [bd_ret, vl_some, b_238_7]
    refine RP_n (by rw [iN_lt (by omega) (by omega)]; omega) (RP_n (by rw [iN_lt (by omega) (by omega)]; omega) ?_)
    obtain ⟨v, C', ⟨a1, a2, a3⟩, hC⟩ := L_233 (d := d + 1) hL hB
    refine LC_bd hC (fun I τ hL => ?_)
    rw [vl_some, b_238_24]
    exact RP_ret ⟨v, C', rfl, ⟨fun _ => a1, a2, a3⟩, LV_up hL (by omega)⟩
  | succ j ih =>
    intro k m n I τ hk hD hm hn
    have hD0 := hD
    obtain ⟨hL, h2, h3⟩ := hD
    have hk' : k < l.length := by omega
    obtain ⟨c1, c2⟩ := hc l[k] (List.getElem_mem _)
    have f14 : CC (d + 42) 14 [.ref q] (I, τ) = some (.inl (some (.int (iN l.length))), (I, τ)) := c_sLen (d := d + 41) h3
    have f31 : CC (d + 42) 31 [.ref q, .int (iN k)] (I, τ) = some (.inl (some (.int (iN l[k]))), (I, τ)) := c_sAt (d := d + 39) h3 hk'
    rw [b_238_4, f14]
    refine RP_gd (congrArg Prod.fst h3.1) ?_
    rw [bd_ret, vl_some, b_238_7, f31]
    refine RP_y (by rw [iN_lt (by omega) (by omega)]; exact hk') (RP_gd (congrArg Prod.fst h3.1) ?_)
    rw [bd_ret, vl_some, b_238_13]
    refine RP_gd (k70 hL) ?_
    have hlen : (l.take k).length = k := by rw [List.length_take]; omega
    have e0 : g_T (cT C0 (l.take k)) = l.take k := rfl
    have e1 : q_type (cT C0 (l.take k)) (iN l[k]) = .inl (iN (k + 1)) := by
      unfold q_type
      rw [if_pos (inB_t c1 c2 (by omega)), e0, hlen, if_pos (by omega)]
    have e2 : t_type (cT C0 (l.take k)) (iN l[k]) = cT C0 (l.take (k + 1)) := by
      unfold t_type
      rw [if_pos (inB_t c1 c2 (by omega)), e0, hlen, if_pos (by omega), tn_iN (by omega), List.take_succ_eq_append_getElem hk']
      rfl
    obtain ⟨I', τ', r1, r2⟩ := p_type (d := d + 2) hL.1 (iN l[k])
    rw [e1] at r1
    rw [e2] at r2
    have r1 : CC (d + 42) 183 [.ref 70, .int (iN l[k])] (I, τ) = some (.inl (some (.int (iN (k + 1)))), (I', τ')) := r1
    have hD' := DS_PC (B' := B) (C' := cT C0 (l.take (k + 1))) hD0 r1 (hav1 hav0) r2 (by have := LV_i hL; exact this)
    rw [r1, bd_ret, vl_some, b_238_14, iN_add, iN_add]
    exact ih (k + 1) _ _ _ _ (by omega) hD' (by omega) (by omega)
/-- a script typed and run -/
theorem L_does {q : Nat} {l : List Nat} (h : DS E B n C q l I τ) (hT : g_T C = []) (hB : B + 1400 ≤ 900000) (hc : ∀ c ∈ l, 32 ≤ c ∧ c ≤ 126) : RP (CC (d + 43) 238 [.ref 70, .ref q] (I, τ)) (fun o I τ => ∃ v C', o = .inl (some (.int v)) ∧ AC C C' v ∧ LV E (B + 660) (n + 61) C' I τ) := by
  have hl := h.2.2.2.2.2.2.1
  have e : C = cT C (l.take 0) := by
    unfold cT
    show C = (g_S C, g_H C, g_Z C, [], g_O C, g_E C, g_F C, g_G C)
    rw [← hT]
    rfl
  rw [c_238, b_238_0]
  have h2 : DS E B n (cT C (l.take 0)) q l I τ := e ▸ h
  exact do_loop (N9 := n + 61) hB hl hc l.length 0 0 n I τ (Nat.zero_add _) h2 (by omega) (by omega)
end DO
