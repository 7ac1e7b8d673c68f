/-! THE LAW: acts -/
def okT (l : List Nat) : Prop := ∀ x ∈ l, 32 ≤ x ∧ x ≤ 126
theorem okT_app {l m : List Nat} (h1 : okT l) (h2 : okT m) : okT (l ++ m) := fun x hx => by
  rcases List.mem_append.mp hx with h | h
  · exact h1 x h
  · exact h2 x h
theorem okT_dg (n : Nat) : okT (dg n) := fun x hx => by have := dg_c n x hx; omega
theorem okT_nil : okT [] := fun x hx => nomatch hx
theorem dg_1 {n : Nat} (h : n < 10) : (dg n).length = 1 := by rw [dg_s h]; rfl
theorem okT_3 : okT [97, 114, 114, 111, 119, 32] := by unfold okT; decide
theorem kt_3 : (3, [97, 114, 114, 111, 119, 32]) ∈ ktab := by decide
theorem okT_5 : okT [59, 110, 105, 103, 104, 116] := by unfold okT; decide
theorem kt_5 : (5, [59, 110, 105, 103, 104, 116]) ∈ ktab := by decide
theorem okT_7 : okT [98, 108, 111, 99, 107, 32] := by unfold okT; decide
theorem kt_7 : (7, [98, 108, 111, 99, 107, 32]) ∈ ktab := by decide
theorem okT_9 : okT [32, 51, 59, 112, 97, 121, 32] := by unfold okT; decide
theorem kt_9 : (9, [32, 51, 59, 112, 97, 121, 32]) ∈ ktab := by decide
theorem okT_11 : okT [119, 114, 105, 116, 32] := by unfold okT; decide
theorem kt_11 : (11, [119, 114, 105, 116, 32]) ∈ ktab := by decide
theorem okT_13 : okT [32, 51, 32] := by unfold okT; decide
theorem kt_13 : (13, [32, 51, 32]) ∈ ktab := by decide
theorem okT_15 : okT [59, 104, 111, 109, 101, 32] := by unfold okT; decide
theorem kt_15 : (15, [59, 104, 111, 109, 101, 32]) ∈ ktab := by decide
theorem okT_17 : okT [48, 59, 104, 101, 97, 114, 32] := by unfold okT; decide
theorem kt_17 : (17, [48, 59, 104, 101, 97, 114, 32]) ∈ ktab := by decide
theorem okT_19 : okT [32, 50, 32, 53, 60] := by unfold okT; decide
theorem kt_19 : (19, [32, 50, 32, 53, 60]) ∈ ktab := by decide
theorem okT_21 : okT [59, 110, 105, 103, 104, 116, 32, 50] := by unfold okT; decide
theorem kt_21 : (21, [59, 110, 105, 103, 104, 116, 32, 50]) ∈ ktab := by decide
section AC
variable {d B n a b c t : Nat} {C : sC} {I : qq_I} {τ : qq_R} {E : List (Nat × (Nat → Int32))}
theorem nz4 (k : Nat) (h1 : 0 < k) (h2 : k < 1000) : ¬ iN k = 0 := fun z => by
  have z : iN k = iN 0 := z
  rw [iN_eq (by omega) (by omega)] at z
  omega
theorem ac_98 (h : LV E B n C I τ) (hT : g_T C = []) (hB : B + 1400 ≤ 900000) (ha : a < 10) (hb : b < 7) (hc : c < 100) : RP (RR (d + 44) 241 98 [some (.ref 70), some (.ref 1), some (.int (iN t)), some (.int (iN a)), some (.int (iN b)), some (.int (iN c))] [.ref (tZ τ), .ref 70] (nwI τ I, nT τ (2, 0) (qq_nf 2))) (fun o I τ => ∃ v C', o = .inl (some (.int v)) ∧ AC C C' v ∧ LV E (B + 660) (n + 100) C' I τ) := by
  have la := dg_1 ha
  have lb := dg_1 (show b < 10 by omega)
  have lb1 := dg_1 (show 1 + b < 10 by omega)
  have lc := dg_len2 (show 1 + c % 60 < 100 by have := Nat.mod_lt c (show 0 < 60 by omega); omega)
  obtain ⟨s, hs, hk, hC⟩ := S0_new (d := d) h
  rw [← hs, b_241_98]
  refine RP_gd hk (LC_bd hC (fun I τ hS => ?_))
  rw [vl_none, b_241_100]
  refine RP_gd (SB_k hS.1) (LC_bd (S0_str hS kt_3 (by simp only [List.length_append, List.length_cons, List.length_nil, la, lb, lb1]; omega)) (fun I τ hS => ?_))
  rw [vl_some, b_241_102]
  refine RP_gd (SB_k hS.1) (LC_bd (S0_int hS (k := a) (by omega) (by simp only [List.length_append, List.length_cons, List.length_nil, la, lb, lb1]; omega)) (fun I τ hS => ?_))
  rw [vl_some, b_241_104]
  refine RP_gd (SB_k hS.1) (LC_bd (S0_int hS (k := b) (by omega) (by simp only [List.length_append, List.length_cons, List.length_nil, la, lb, lb1]; omega)) (fun I τ hS => ?_))
  rw [vl_some, b_241_106]
  refine RP_gd (SB_k hS.1) (LC_bd (S0_str hS kt_5 (by simp only [List.length_append, List.length_cons, List.length_nil, la, lb, lb1]; omega)) (fun I τ hS => ?_))
  rw [vl_some, b_241_108]
  refine RP_gd (SB_k hS.1) (LC_bd (SB_done hS.1 (by simp only [List.length_append, List.length_cons, List.length_nil, la, lb, lb1]; omega) (okT_app (okT_app (okT_app (okT_app okT_nil okT_3) (okT_dg _)) (okT_dg _)) okT_5)) (fun I τ hD => ?_))
  rw [vl_some, b_241_109, b_241_180]
  refine RP_bd (L_does hD hT hB (okT_app (okT_app (okT_app (okT_app okT_nil okT_3) (okT_dg _)) (okT_dg _)) okT_5)) (fun o I τ hq => ?_)
  obtain ⟨v, C', rfl, hA, hL⟩ := hq
  refine ⟨_, rfl, ?_⟩
  rw [vl_some, b_241_181]
  exact RP_ret ⟨v, C', rfl, hA, LV_up hL (by omega)⟩
theorem ac_116 (h : LV E B n C I τ) (hT : g_T C = []) (hB : B + 1400 ≤ 900000) (ha : a < 10) (hb : b < 7) (hc : c < 100) : RP (RR (d + 44) 241 116 [some (.ref 70), some (.ref 1), some (.int (iN t)), some (.int (iN a)), some (.int (iN b)), some (.int (iN c))] [.ref (tZ τ), .ref 70] (nwI τ I, nT τ (2, 0) (qq_nf 2))) (fun o I τ => ∃ v C', o = .inl (some (.int v)) ∧ AC C C' v ∧ LV E (B + 660) (n + 100) C' I τ) := by
  have la := dg_1 ha
  have lb := dg_1 (show b < 10 by omega)
  have lb1 := dg_1 (show 1 + b < 10 by omega)
  have lc := dg_len2 (show 1 + c % 60 < 100 by have := Nat.mod_lt c (show 0 < 60 by omega); omega)
  obtain ⟨s, hs, hk, hC⟩ := S0_new (d := d) h
  rw [← hs, b_241_116]
  refine RP_gd hk (LC_bd hC (fun I τ hS => ?_))
  rw [vl_none, b_241_118]
  refine RP_gd (SB_k hS.1) (LC_bd (S0_str hS kt_7 (by simp only [List.length_append, List.length_cons, List.length_nil, la, lb, lb1]; omega)) (fun I τ hS => ?_))
  rw [vl_some, b_241_120]
  rw [iN_add]
  refine RP_gd (SB_k hS.1) (LC_bd (S0_int hS (k := 1 + b) (by omega) (by simp only [List.length_append, List.length_cons, List.length_nil, la, lb, lb1]; omega)) (fun I τ hS => ?_))
  rw [vl_some, b_241_124]
  refine RP_gd (SB_k hS.1) (LC_bd (S0_str hS kt_9 (by simp only [List.length_append, List.length_cons, List.length_nil, la, lb, lb1]; omega)) (fun I τ hS => ?_))
  rw [vl_some, b_241_126]
  obtain ⟨w, hw, hC⟩ := S0_writ (d := d) hS (a := a) (by omega)
  have lw := dg_len6 hw
  clear hS
  refine LC_bd hC (fun I τ hS => ?_)
  rw [vl_some, b_241_129]
  refine RP_gd (SB_k hS) (LC_bd (SB_int hS (k := w) (by omega) (by simp only [List.length_append, List.length_cons, List.length_nil, la, lb, lb1]; omega)) (fun I τ hS => ?_))
  rw [vl_some, b_241_130]
  refine RP_gd (SB_k hS) (LC_bd (SB_done hS (by simp only [List.length_append, List.length_cons, List.length_nil, la, lb, lb1]; omega) (okT_app (okT_app (okT_app (okT_app okT_nil okT_7) (okT_dg _)) okT_9) (okT_dg _))) (fun I τ hD => ?_))
  rw [vl_some, b_241_131, b_241_180]
  refine RP_bd (L_does hD hT hB (okT_app (okT_app (okT_app (okT_app okT_nil okT_7) (okT_dg _)) okT_9) (okT_dg _))) (fun o I τ hq => ?_)
  obtain ⟨v, C', rfl, hA, hL⟩ := hq
  refine ⟨_, rfl, ?_⟩
  rw [vl_some, b_241_181]
  exact RP_ret ⟨v, C', rfl, hA, LV_up hL (by omega)⟩
theorem ac_138 (h : LV E B n C I τ) (hT : g_T C = []) (hB : B + 1400 ≤ 900000) (ha : a < 10) (hb : b < 7) (hc : c < 100) : RP (RR (d + 44) 241 138 [some (.ref 70), some (.ref 1), some (.int (iN t)), some (.int (iN a)), some (.int (iN b)), some (.int (iN c))] [.ref (tZ τ), .ref 70] (nwI τ I, nT τ (2, 0) (qq_nf 2))) (fun o I τ => ∃ v C', o = .inl (some (.int v)) ∧ AC C C' v ∧ LV E (B + 660) (n + 100) C' I τ) := by
  have la := dg_1 ha
  have lb := dg_1 (show b < 10 by omega)
  have lb1 := dg_1 (show 1 + b < 10 by omega)
  have lc := dg_len2 (show 1 + c % 60 < 100 by have := Nat.mod_lt c (show 0 < 60 by omega); omega)
  obtain ⟨s, hs, hk, hC⟩ := S0_new (d := d) h
  rw [← hs, b_241_138]
  refine RP_gd hk (LC_bd hC (fun I τ hS => ?_))
  rw [vl_none, b_241_140]
  refine RP_gd (SB_k hS.1) (LC_bd (S0_str hS kt_11 (by simp only [List.length_append, List.length_cons, List.length_nil, la, lb, lb1]; omega)) (fun I τ hS => ?_))
  rw [vl_some, b_241_142]
  refine RP_gd (SB_k hS.1) (LC_bd (S0_int hS (k := b) (by omega) (by simp only [List.length_append, List.length_cons, List.length_nil, la, lb, lb1]; omega)) (fun I τ hS => ?_))
  rw [vl_some, b_241_144]
  refine RP_gd (SB_k hS.1) (LC_bd (S0_str hS kt_13 (by simp only [List.length_append, List.length_cons, List.length_nil, la, lb, lb1]; omega)) (fun I τ hS => ?_))
  rw [vl_some, b_241_146]
  refine RP_gd (nz4 60 (by omega) (by omega)) ?_
  rw [iN_rem (by omega) (by omega) (by omega), iN_add]
  refine RP_gd (SB_k hS.1) (LC_bd (S0_int hS (k := 1 + c % 60) (by omega) (by simp only [List.length_append, List.length_cons, List.length_nil, la, lb, lb1]; omega)) (fun I τ hS => ?_))
  rw [vl_some, b_241_152]
  refine RP_gd (SB_k hS.1) (LC_bd (S0_str hS kt_15 (by simp only [List.length_append, List.length_cons, List.length_nil, la, lb, lb1]; omega)) (fun I τ hS => ?_))
  rw [vl_some, b_241_154]
  refine RP_gd (SB_k hS.1) (LC_bd (S0_int hS (k := b) (by omega) (by simp only [List.length_append, List.length_cons, List.length_nil, la, lb, lb1]; omega)) (fun I τ hS => ?_))
  rw [vl_some, b_241_156]
  refine RP_gd (SB_k hS.1) (LC_bd (S0_str hS kt_17 (by simp only [List.length_append, List.length_cons, List.length_nil, la, lb, lb1]; omega)) (fun I τ hS => ?_))
  rw [vl_some, b_241_158]
  obtain ⟨w, hw, hC⟩ := S0_writ (d := d) hS (a := a) (by omega)
  have lw := dg_len6 hw
  clear hS
  refine LC_bd hC (fun I τ hS => ?_)
  rw [vl_some, b_241_161]
  refine RP_gd (SB_k hS) (LC_bd (SB_int hS (k := w) (by omega) (by simp only [List.length_append, List.length_cons, List.length_nil, la, lb, lb1]; omega)) (fun I τ hS => ?_))
  rw [vl_some, b_241_162]
  refine RP_gd (SB_k hS) (LC_bd (SB_done hS (by simp only [List.length_append, List.length_cons, List.length_nil, la, lb, lb1]; omega) (okT_app (okT_app (okT_app (okT_app (okT_app (okT_app (okT_app (okT_app okT_nil okT_11) (okT_dg _)) okT_13) (okT_dg _)) okT_15) (okT_dg _)) okT_17) (okT_dg _))) (fun I τ hD => ?_))
  rw [vl_some, b_241_163, b_241_180]
  refine RP_bd (L_does hD hT hB (okT_app (okT_app (okT_app (okT_app (okT_app (okT_app (okT_app (okT_app okT_nil okT_11) (okT_dg _)) okT_13) (okT_dg _)) okT_15) (okT_dg _)) okT_17) (okT_dg _))) (fun o I τ hq => ?_)
  obtain ⟨v, C', rfl, hA, hL⟩ := hq
  refine ⟨_, rfl, ?_⟩
  rw [vl_some, b_241_181]
  exact RP_ret ⟨v, C', rfl, hA, LV_up hL (by omega)⟩
theorem ac_165 (h : LV E B n C I τ) (hT : g_T C = []) (hB : B + 1400 ≤ 900000) (ha : a < 10) (hb : b < 7) (hc : c < 100) : RP (RR (d + 44) 241 165 [some (.ref 70), some (.ref 1), some (.int (iN t)), some (.int (iN a)), some (.int (iN b)), some (.int (iN c))] [.ref (tZ τ), .ref 70] (nwI τ I, nT τ (2, 0) (qq_nf 2))) (fun o I τ => ∃ v C', o = .inl (some (.int v)) ∧ AC C C' v ∧ LV E (B + 660) (n + 100) C' I τ) := by
  have la := dg_1 ha
  have lb := dg_1 (show b < 10 by omega)
  have lb1 := dg_1 (show 1 + b < 10 by omega)
  have lc := dg_len2 (show 1 + c % 60 < 100 by have := Nat.mod_lt c (show 0 < 60 by omega); omega)
  obtain ⟨s, hs, hk, hC⟩ := S0_new (d := d) h
  rw [← hs, b_241_165]
  refine RP_gd hk (LC_bd hC (fun I τ hS => ?_))
  rw [vl_none, b_241_167]
  refine RP_gd (SB_k hS.1) (LC_bd (S0_str hS kt_11 (by simp only [List.length_append, List.length_cons, List.length_nil, la, lb, lb1]; omega)) (fun I τ hS => ?_))
  rw [vl_some, b_241_169]
  refine RP_gd (SB_k hS.1) (LC_bd (S0_int hS (k := b) (by omega) (by simp only [List.length_append, List.length_cons, List.length_nil, la, lb, lb1]; omega)) (fun I τ hS => ?_))
  rw [vl_some, b_241_171]
  refine RP_gd (SB_k hS.1) (LC_bd (S0_str hS kt_19 (by simp only [List.length_append, List.length_cons, List.length_nil, la, lb, lb1]; omega)) (fun I τ hS => ?_))
  rw [vl_some, b_241_173]
  obtain ⟨w, hw, hC⟩ := S0_writ (d := d) hS (a := a) (by omega)
  have lw := dg_len6 hw
  clear hS
  refine LC_bd hC (fun I τ hS => ?_)
  rw [vl_some, b_241_176]
  refine RP_gd (SB_k hS) (LC_bd (SB_int hS (k := w) (by omega) (by simp only [List.length_append, List.length_cons, List.length_nil, la, lb, lb1]; omega)) (fun I τ hS => ?_))
  rw [vl_some, b_241_177]
  refine RP_gd (SB_k hS) (LC_bd (SB_str hS kt_21 (by simp only [List.length_append, List.length_cons, List.length_nil, la, lb, lb1]; omega)) (fun I τ hS => ?_))
  rw [vl_some, b_241_179]
  refine RP_gd (SB_k hS) (LC_bd (SB_done hS (by simp only [List.length_append, List.length_cons, List.length_nil, la, lb, lb1]; omega) (okT_app (okT_app (okT_app (okT_app (okT_app okT_nil okT_11) (okT_dg _)) okT_19) (okT_dg _)) okT_21)) (fun I τ hD => ?_))
  rw [vl_some, b_241_180]
  refine RP_bd (L_does hD hT hB (okT_app (okT_app (okT_app (okT_app (okT_app okT_nil okT_11) (okT_dg _)) okT_19) (okT_dg _)) okT_21)) (fun o I τ hq => ?_)
  obtain ⟨v, C', rfl, hA, hL⟩ := hq
  refine ⟨_, rfl, ?_⟩
  rw [vl_some, b_241_181]
  exact RP_ret ⟨v, C', rfl, hA, LV_up hL (by omega)⟩
/-- one deed of the law's -/
theorem L_acts (h : LV E B n C I τ) (hT : g_T C = []) (hB : B + 1400 ≤ 900000) (ht : t < 1000) : RP (CC (d + 44) 241 [.ref 70, .ref 1, .int (iN t)] (I, τ)) (fun o I τ => ∃ v C', o = .inl (some (.int v)) ∧ AC C C' v ∧ LV E (B + 660) (n + 100) C' I τ) := by
  obtain ⟨a, ha, hC⟩ := L_in (d := d + 42) h (t := t + 1) (m := 10) (by omega) (by omega) (by omega)
  rw [c_241, b_241_0, iN_add]
  refine LC_bd hC (fun I τ hL => ?_)
  clear h
  obtain ⟨b, hb, hC⟩ := L_in (d := d + 42) hL (t := t + 2) (m := 7) (by omega) (by omega) (by omega)
  rw [vl_some, b_241_6, iN_add]
  clear hL
  refine LC_bd hC (fun I τ hL => ?_)
  obtain ⟨c, hc, hC⟩ := L_in (d := d + 42) hL (t := t + 3) (m := 100) (by omega) (by omega) (by omega)
  rw [vl_some, b_241_13, iN_add]
  clear hL
  refine LC_bd hC (fun I τ hL => ?_)
  obtain ⟨r, hr, hC⟩ := L_in (d := d + 42) hL (t := t) (m := 28) (by omega) (by omega) (by omega)
  rw [vl_some, b_241_20]
  clear hL
  refine LC_bd hC (fun I τ hL => ?_)
  rw [vl_some]
  have T26 : RP (RR (d + 44) 241 26 [some (.ref 70), some (.ref 1), some (.int (iN t)), some (.int (iN a)), some (.int (iN b)), some (.int (iN c))] [] (I, τ)) (fun o I τ => ∃ v C', o = .inl (some (.int v)) ∧ AC C C' v ∧ LV E (B + 660) (n + 100) C' I τ) := by
    rw [b_241_26]
    obtain ⟨v, C', hA, hC⟩ := L_215 (d := d + 2) hL hB
    refine LC_bd hC (fun I τ hL => ?_)
    rw [vl_some, b_241_28]
    exact RP_ret ⟨v, C', rfl, hA, LV_up hL (by omega)⟩
  have T29 : RP (RR (d + 44) 241 29 [some (.ref 70), some (.ref 1), some (.int (iN t)), some (.int (iN a)), some (.int (iN b)), some (.int (iN c))] [] (I, τ)) (fun o I τ => ∃ v C', o = .inl (some (.int v)) ∧ AC C C' v ∧ LV E (B + 660) (n + 100) C' I τ) := by
    rw [b_241_29]
    obtain ⟨v, C', hA, hC⟩ := L_216 (d := d + 2) hL hB (iN a) (iN b)
    refine LC_bd hC (fun I τ hL => ?_)
    rw [vl_some, b_241_33]
    exact RP_ret ⟨v, C', rfl, hA, LV_up hL (by omega)⟩
  have T34 : RP (RR (d + 44) 241 34 [some (.ref 70), some (.ref 1), some (.int (iN t)), some (.int (iN a)), some (.int (iN b)), some (.int (iN c))] [] (I, τ)) (fun o I τ => ∃ v C', o = .inl (some (.int v)) ∧ AC C C' v ∧ LV E (B + 660) (n + 100) C' I τ) := by
    rw [b_241_34]
    obtain ⟨v, C', hA, hC⟩ := L_217 (d := d + 2) hL hB (iN a) (iN c)
    refine LC_bd hC (fun I τ hL => ?_)
    rw [vl_some, b_241_38]
    exact RP_ret ⟨v, C', rfl, hA, LV_up hL (by omega)⟩
  have T39 : RP (RR (d + 44) 241 39 [some (.ref 70), some (.ref 1), some (.int (iN t)), some (.int (iN a)), some (.int (iN b)), some (.int (iN c))] [] (I, τ)) (fun o I τ => ∃ v C', o = .inl (some (.int v)) ∧ AC C C' v ∧ LV E (B + 660) (n + 100) C' I τ) := by
    rw [b_241_39]
    obtain ⟨v, C', hA, hC⟩ := L_218 (d := d + 2) hL hB (iN b) (iN a)
    refine LC_bd hC (fun I τ hL => ?_)
    rw [vl_some, b_241_43]
    exact RP_ret ⟨v, C', rfl, hA, LV_up hL (by omega)⟩
  have T88 : RP (RR (d + 44) 241 88 [some (.ref 70), some (.ref 1), some (.int (iN t)), some (.int (iN a)), some (.int (iN b)), some (.int (iN c))] [] (I, τ)) (fun o I τ => ∃ v C', o = .inl (some (.int v)) ∧ AC C C' v ∧ LV E (B + 660) (n + 100) C' I τ) := by
    rw [b_241_88]
    obtain ⟨v, C', hA, hC⟩ := L_223 (d := d + 2) hL hB (iN b)
    refine LC_bd hC (fun I τ hL => ?_)
    rw [vl_some, b_241_91]
    exact RP_ret ⟨v, C', rfl, hA, LV_up hL (by omega)⟩
  have T44 : RP (RR (d + 44) 241 44 [some (.ref 70), some (.ref 1), some (.int (iN t)), some (.int (iN a)), some (.int (iN b)), some (.int (iN c))] [] (I, τ)) (fun o I τ => ∃ v C', o = .inl (some (.int v)) ∧ AC C C' v ∧ LV E (B + 660) (n + 100) C' I τ) := by
    rw [b_241_44]
    refine RP_gd (nz4 62 (by omega) (by omega)) ?_
    obtain ⟨v, C', hA, hC⟩ := L_219 (d := d + 2) hL hB (iN b) (iN a) (iN 1 + (iN c - iN c / iN 62 * iN 62))
    refine LC_bd hC (fun I τ hL => ?_)
    rw [vl_some, b_241_53]
    exact RP_ret ⟨v, C', rfl, hA, LV_up hL (by omega)⟩
  have T54 : RP (RR (d + 44) 241 54 [some (.ref 70), some (.ref 1), some (.int (iN t)), some (.int (iN a)), some (.int (iN b)), some (.int (iN c))] [] (I, τ)) (fun o I τ => ∃ v C', o = .inl (some (.int v)) ∧ AC C C' v ∧ LV E (B + 660) (n + 100) C' I τ) := by
    have hm : c % 10 < 10 := Nat.mod_lt _ (by omega)
    obtain ⟨w, hw, hC⟩ := L_writ (d := d + 1) hL (a := c % 10) (by omega)
    rw [b_241_54]
    refine RP_gd ⟨nz4 60 (by omega) (by omega), nz4 10 (by omega) (by omega)⟩ ?_
    rw [iN_rem (m := 10) (by omega) (by omega) (by omega)]
    refine LC_bd hC (fun I τ hL => ?_)
    rw [vl_some, b_241_67]
    obtain ⟨v, C', hA, hC⟩ := L_220 (d := d + 2) hL hB (iN b) (iN a) (iN 1 + (iN c - iN c / iN 60 * iN 60)) (iN w)
    refine LC_bd hC (fun I τ hL => ?_)
    rw [vl_some, b_241_68]
    exact RP_ret ⟨v, C', rfl, hA, LV_up hL (by omega)⟩
  have T69 : RP (RR (d + 44) 241 69 [some (.ref 70), some (.ref 1), some (.int (iN t)), some (.int (iN a)), some (.int (iN b)), some (.int (iN c))] [] (I, τ)) (fun o I τ => ∃ v C', o = .inl (some (.int v)) ∧ AC C C' v ∧ LV E (B + 660) (n + 100) C' I τ) := by
    rw [b_241_69]
    refine RP_gd (nz4 22 (by omega) (by omega)) ?_
    obtain ⟨v, C', hA, hC⟩ := L_221 (d := d + 2) hL hB (iN c - iN c / iN 22 * iN 22) (iN a)
    refine LC_bd hC (fun I τ hL => ?_)
    rw [vl_some, b_241_75]
    exact RP_ret ⟨v, C', rfl, hA, LV_up hL (by omega)⟩
  have T76 : RP (RR (d + 44) 241 76 [some (.ref 70), some (.ref 1), some (.int (iN t)), some (.int (iN a)), some (.int (iN b)), some (.int (iN c))] [] (I, τ)) (fun o I τ => ∃ v C', o = .inl (some (.int v)) ∧ AC C C' v ∧ LV E (B + 660) (n + 100) C' I τ) := by
    obtain ⟨w, hw, hC⟩ := L_writ (d := d + 1) hL (a := a) (by omega)
    rw [b_241_76]
    refine LC_bd hC (fun I τ hL => ?_)
    rw [vl_some, b_241_80]
    obtain ⟨v, C', hA, hC⟩ := L_222 (d := d + 2) hL hB (iN w)
    refine LC_bd hC (fun I τ hL => ?_)
    rw [vl_some, b_241_81]
    exact RP_ret ⟨v, C', rfl, hA, LV_up hL (by omega)⟩
  have T82 : RP (RR (d + 44) 241 82 [some (.ref 70), some (.ref 1), some (.int (iN t)), some (.int (iN a)), some (.int (iN b)), some (.int (iN c))] [] (I, τ)) (fun o I τ => ∃ v C', o = .inl (some (.int v)) ∧ AC C C' v ∧ LV E (B + 660) (n + 100) C' I τ) := by
    obtain ⟨w, hw, hC⟩ := L_writ (d := d + 1) hL (a := a) (by omega)
    rw [b_241_82]
    refine LC_bd hC (fun I τ hL => ?_)
    rw [vl_some, b_241_86]
    obtain ⟨v, C', hA, hC⟩ := L_236 (d := d + 2) hL hB (iN w)
    refine LC_bd hC (fun I τ hL => ?_)
    rw [vl_some, b_241_87]
    exact RP_ret ⟨v, C', rfl, hA, LV_up hL (by omega)⟩
  have T92 : RP (RR (d + 44) 241 92 [some (.ref 70), some (.ref 1), some (.int (iN t)), some (.int (iN a)), some (.int (iN b)), some (.int (iN c))] [] (I, τ)) (fun o I τ => ∃ v C', o = .inl (some (.int v)) ∧ AC C C' v ∧ LV E (B + 660) (n + 100) C' I τ) := by
    have n4 := nz4 4 (by omega) (by omega)
    rw [b_241_92]
    refine RP_gd n4 (RP_if (fun _ => ?_) (fun _ => RP_gd n4 (RP_if (fun _ => ?_) (fun _ => RP_gd n4 (RP_if (fun _ => ?_) (fun _ => ?_))))))
    · rw [nw_mk, sz_mk]; exact ac_98 hL hT hB ha hb hc
    · rw [nw_mk, sz_mk]; exact ac_116 hL hT hB ha hb hc
    · rw [nw_mk, sz_mk]; exact ac_138 hL hT hB ha hb hc
    · rw [nw_mk, sz_mk]; exact ac_165 hL hT hB ha hb hc
  by_cases e0 : r = 0
  · subst e0; rw [s_241_25_0]; exact T26
  by_cases e1 : r = 1
  · subst e1; rw [s_241_25_1]; exact T29
  by_cases e2 : r = 2
  · subst e2; rw [s_241_25_2]; exact T29
  by_cases e3 : r = 3
  · subst e3; rw [s_241_25_3]; exact T29
  by_cases e4 : r = 4
  · subst e4; rw [s_241_25_4]; exact T34
  by_cases e5 : r = 5
  · subst e5; rw [s_241_25_5]; exact T34
  by_cases e6 : r = 6
  · subst e6; rw [s_241_25_6]; exact T39
  by_cases e7 : r = 7
  · subst e7; rw [s_241_25_7]; exact T39
  by_cases e8 : r = 8
  · subst e8; rw [s_241_25_8]; exact T44
  by_cases e9 : r = 9
  · subst e9; rw [s_241_25_9]; exact T44
  by_cases e10 : r = 10
  · subst e10; rw [s_241_25_10]; exact T44
  by_cases e11 : r = 11
  · subst e11; rw [s_241_25_11]; exact T54
  by_cases e12 : r = 12
  · subst e12; rw [s_241_25_12]; exact T54
  by_cases e13 : r = 13
  · subst e13; rw [s_241_25_13]; exact T69
  by_cases e14 : r = 14
  · subst e14; rw [s_241_25_14]; exact T69
  by_cases e15 : r = 15
  · subst e15; rw [s_241_25_15]; exact T69
  by_cases e16 : r = 16
  · subst e16; rw [s_241_25_16]; exact T76
  by_cases e17 : r = 17
  · subst e17; rw [s_241_25_17]; exact T76
  by_cases e18 : r = 18
  · subst e18; rw [s_241_25_18]; exact T76
  by_cases e19 : r = 19
  · subst e19; rw [s_241_25_19]; exact T82
  by_cases e20 : r = 20
  · subst e20; rw [s_241_25_20]; exact T82
  by_cases e21 : r = 21
  · subst e21; rw [s_241_25_21]; exact T82
  by_cases e22 : r = 22
  · subst e22; rw [s_241_25_22]; exact T88
  by_cases e23 : r = 23
  · subst e23; rw [s_241_25_23]; exact T88
  by_cases e24 : r = 24
  · subst e24; rw [s_241_25_24]; exact T88
  have hd : qq_sw (.tableswitch 219 0 24 #[113, 118, 118, 118, 126, 126, 134, 134, 142, 142, 142, 157, 157, 181, 181, 181, 192, 192, 192, 202, 202, 202, 212, 212, 212]) (iN r) = some 0 := by
    have : r = 25 ∨ r = 26 ∨ r = 27 := by omega
    rcases this with rfl | rfl | rfl <;> decide +kernel
  rw [s_241_25_d hd]
  exact T92
end AC
