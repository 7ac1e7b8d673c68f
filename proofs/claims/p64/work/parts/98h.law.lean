/-! THE LAW -/
theorem nuV_b (s : Nat) : ∀ m S r, nuV m S s r = m1 ∨ ∃ j, j ≤ r + m + 50 ∧ nuV m S s r = iN j := by
  intro m
  induction m with
  | zero =>
    intro S r
    unfold nuV
    split
    · exact Or.inr ⟨50, by omega, rfl⟩
    · exact Or.inl rfl
  | succ m ih =>
    intro S r
    unfold nuV
    split
    · exact Or.inr ⟨r, by omega, rfl⟩
    · rcases ih (npS S) (r + 1) with h | ⟨j, h1, h2⟩
      · exact Or.inl h
      · exact Or.inr ⟨j, by omega, h2⟩
theorem hiA_last (l : List sS) (S : sS) : (hiA l S).getLast? = some S := by
  unfold hiA
  split <;> exact List.getLast?_concat
theorem hiA_pos (l : List sS) (S : sS) : 0 < (hiA l S).length := by
  unfold hiA
  split <;> (rw [List.length_append, List.length_singleton]; omega)
theorem er_ne8 {k : Nat} (h : k < 4) : ¬ er k = iN 4294067287 := fun e => by
  have h1 := er_toInt h
  rw [e, show (iN 4294067287).toInt = -900009 by decide +kernel] at h1
  omega
theorem er_nlt {k : Nat} (h : k < 4) : ¬ iN 4294067296 < er k := by
  rw [Int32.lt_iff_toInt_lt, er_toInt h, show (iN 4294067296).toInt = -900000 by decide +kernel]
  omega
theorem ok_ne8 {k : Nat} (h : k ≤ 900000) : ¬ iN k = iN 4294067287 := fun e => by
  have h1 : (iN k).toInt = k := iN_toInt (by omega)
  rw [e, show (iN 4294067287).toInt = -900009 by decide +kernel] at h1
  omega
theorem ok_gt {k : Nat} (h : k ≤ 900000) : iN 4294067296 < iN k := by
  rw [Int32.lt_iff_toInt_lt, iN_toInt (a := k) (by omega), show (iN 4294067296).toInt = -900000 by decide +kernel]
  omega
theorem zb_iN {k : Nat} (h : k ≤ 900000) : sb 1 (iN k) := by
  unfold sb
  rw [iN_toInt (by omega)]; omega
theorem zb_er {k : Nat} (h : k < 4) : sb 1 (er k) := by
  unfold sb
  rw [er_toInt h]; omega
theorem zb_q {l : List Nat} {q : qR} (hl : l.length ≤ 4) (hq : qin l q) (hb : ∀ v, q = .inl v → sb 1 v) : sb 1 (wv l q) := by
  cases q with
  | inl v => exact hb v rfl
  | inr x => exact zb_er (Nat.lt_of_lt_of_le (List.idxOf_lt_length_of_mem hq) hl)
section LF
variable {d B n : Nat} {C : sC} {I : qq_I} {τ : qq_R} {E : List (Nat × (Nat → Int32))} {S T : sS} {H : List sS} {x : Int32} {k m : Nat}
theorem zb_nights : sb 1 (wv [0, 3] (q_nights S x)) := by
  refine zb_q (by decide) qi_nights (fun v hv => ?_)
  unfold q_nights at hv
  split at hv
  · split at hv
    · cases hv
    · rename_i h2
      cases hv
      rcases nuV_b (tn x) 50 S 0 with h | ⟨j, h1, h3⟩
      · exact absurd h h2
      · rw [h3]; exact zb_iN (by omega)
  · cases hv
theorem zb_byWeight (hw : wS B S) (hk : k < 1000000) : sb 1 (wv [3] (q_byWeight S (iN k))) := by
  refine zb_q (by decide) qi_byWeight (fun v hv => ?_)
  unfold q_byWeight at hv
  split at hv
  · cases hv
    rename_i h
    have h6 := hw.2.1.2.1
    have hp := hw.2.1.2.2.2.2.2.1
    have hlen : (p_hf (s_P S)).length = p_ns (s_P S) := by rw [hp.length_eq, List.length_range]
    rw [tn_iN (by omega)]
    rcases Nat.lt_or_ge k (p_hf (s_P S)).length with q | q
    · have hm : (p_hf (s_P S)).getD k 0 ∈ p_hf (s_P S) := by
        rw [List.getD_eq_getElem?_getD, List.getElem?_eq_getElem q]
        exact List.getElem_mem q
      have := List.mem_range.mp (hp.mem_iff.mp hm)
      exact zb_iN (by omega)
    · rw [List.getD_eq_getElem?_getD, List.getElem?_eq_none q]
      exact zb_iN (by show (0 : Nat) ≤ _; omega)
  · cases hv
theorem zb_byLast (hw : wS B S) (hk : k < 1000000) : sb 1 (wv [3] (q_byLast S (iN k))) := by
  refine zb_q (by decide) qi_byLast (fun v hv => ?_)
  unfold q_byLast at hv
  split at hv
  · cases hv
    rename_i h
    obtain ⟨j, h1, h2⟩ := (inN_iff (by have := hw.2.2.1.1; omega)).mp h
    have hj : tn (iN k) = j := by rw [h2, tn_iN (by have := hw.2.2.1.1; omega)]
    rw [hj]
    have h3 := (hw.2.2.1.2.2.2 (ow (s_U S) j) (ow_lt h1)).1
    have h4 := hw.2.2.1.2.1
    have h5 := hw.2.2.2.1
    have h6 := hw.1
    exact zb_iN (by omega)
  · cases hv
theorem zb_after (hw : wS B S) (hk : k < p_np (s_P S)) (hm : m ≤ 9999) : q_after S (iN k) (iN m) = .inl (iN (it (p_ar (s_P S)) m k)) ∧ sb 1 (iN (it (p_ar (s_P S)) m k)) := by
  have h1 := hw.2.1.1
  have h2 := it_lt hw.2.1.2.2.1 m k hk
  exact ⟨qt_after hw hk hm, zb_iN (by omega)⟩
theorem zb_fewest : sb 1 (wv [1, 4] (q_fewest S x)) := by
  refine zb_q (by decide) qi_fewest (fun v hv => ?_)
  unfold q_fewest at hv
  split at hv
  · split at hv
    · cases hv
    · cases hv
      have := fw_le (bl := m_bl (s_M S)) 20 (tn x)
      exact zb_iN (by omega)
  · cases hv
theorem L_undo (h : LV E B n C I τ) (hH : g_H C = hiA H S) (hi : iS B S) : ∃ k, k ≤ 900000 ∧ LC (d + 41) 234 [.ref 70] I τ (some (.int (iN k))) (LV E B (n + 1) (S, (hiA H S).dropLast, C.2.2)) := by
  obtain ⟨-, -, -, -, h8, -⟩ := h.1.2.2.2.1
  have hp := hiA_pos H S
  have e1 : q_undo C = .inl (iN ((hiA H S).length - 1)) := by
    unfold q_undo
    rw [hH, if_neg (by omega)]
  have e2 : t_undo C = (S, (hiA H S).dropLast, C.2.2) := by
    unfold t_undo
    rw [hH, hiA_last]
  have hpp := p_undo (d := d) h.1
  rw [e1, e2] at hpp
  rw [hH] at h8
  exact ⟨(hiA H S).length - 1, by omega, L_do h hpp (w_234 (q := .inl (iN ((hiA H S).length - 1))) trivial (k70' h)) hav0 hi⟩
theorem L_undo0 (h : LV E B n C I τ) (hH : g_H C = []) : LC (d + 41) 234 [.ref 70] I τ (some (.int (er 0))) (LV E B (n + 1) C) := by
  have e1 : q_undo C = .inr 3 := by
    unfold q_undo
    rw [hH]
    rfl
  have e2 : t_undo C = C := by
    unfold t_undo
    rw [hH]
    rfl
  have hpp := p_undo (d := d) h.1
  rw [e1, e2] at hpp
  exact L_do h hpp (w_234 (q := .inr 3) (show (3 : Nat) ∈ [3] by decide) (k70' h)) hav0 (LV_i h)
theorem L_save (h : LV E B n C I τ) : LC (d + 40) 189 [.ref 70] I τ (some (.int (iN (p_ns (s_P (g_S C)))))) (LV E B (n + 1) (t_save C)) := by
  obtain ⟨I', τ', h1, h2⟩ := p_save (d := d) h.1
  have hi : iS B (g_S (t_save C)) := (LV_i h : iS B (g_S C))
  exact ⟨I', τ', h1, LV_PC h h1 hav0 h2 hi⟩
theorem L_rest (h : LV E B n C I τ) (hZ : g_Z C = some T) (hi : iS B T) : LC (d + 41) 235 [.ref 70] I τ (some (.int (iN (p_ns (s_P T))))) (LV E B (n + 1) (T, [], C.2.2)) := by
  have e1 : q_restore C = .inl (iN (p_ns (s_P T))) := by
    unfold q_restore
    rw [hZ]
  have e2 : t_restore C = (T, [], C.2.2) := by
    unfold t_restore
    rw [hZ]
  have hpp := p_restore (d := d) h.1
  rw [e1, e2] at hpp
  exact L_do h hpp (w_235 (q := .inl (iN (p_ns (s_P T)))) trivial (k70' h)) hav0 hi
theorem law_loop {P : qq_O → qq_I → qq_R → Prop} {st : Nat} {x3 : Int32} (hst : st ≤ 9999)
    (K : ∀ E B n C I τ u5 u6, LV E B n C I τ → g_T C = [] → 3 ≤ p_np (s_P (g_S C)) → B ≤ 28380 → n ≤ 9100 → RP (RR (d + 45) 245 26 [some (.ref 1), some (.ref 70), some (.int (iN st)), some (.int x3), some (.int (iN 7)), u5, u6] [] (I, τ)) P) :
    ∀ j k E B n C I τ u5 u6, k + j = 7 → LV E B n C I τ → g_T C = [] → 3 ≤ p_np (s_P (g_S C)) → B ≤ 23760 + 660 * k → n ≤ 700 + 1200 * k → RP (RR (d + 45) 245 26 [some (.ref 1), some (.ref 70), some (.int (iN st)), some (.int x3), some (.int (iN k)), u5, u6] [] (I, τ)) P := by
  intro j
  induction j with
  | zero =>
    intro k E B n C I τ u5 u6 hk h hT hp hB hn
    have e : k = 7 := by omega
    subst e
    exact K _ _ _ _ _ _ _ _ h hT hp (by omega) (by omega)
  | succ j ih =>
    intro k E B n C I τ u5 u6 hk h hT hp hB hn
    rw [b_245_26]
    refine RP_y (by rw [iN_lt (by omega) (by omega)]; omega) ?_
    have hC := L_seen (d := d + 2) h
    generalize tZ τ = s at hC
    refine LC_bd hC (fun I τ hL => ?_)
    rw [vl_some, b_245_31, iN_mul, iN_add]
    have hiC := LV_i hL
    refine RP_bd (L_acts (d := d) hL hT (by omega) (t := 62 + 4 * k) (by omega)) (fun o I τ hq => ?_)
    obtain ⟨v, C', rfl, hA, hL⟩ := hq
    refine ⟨_, rfl, ?_⟩
    rw [vl_some, b_245_40]
    refine LC_bd (L_well (d := d + 2) hL hst) (fun I τ hL => ?_)
    rw [vl_some, b_245_45]
    refine RP_n (by decide) ?_
    obtain ⟨hA1, hA2, hA3, hA4⟩ := hA
    rcases hA3 with ⟨e, he, rfl, hS⟩ | ⟨m, hm, rfl, hH⟩
    · refine RP_n (er_ne8 he) (RP_n (er_nlt he) ?_)
      have hC := L_seen (d := d + 2) hL
      generalize tZ τ = s2 at hC
      refine LC_bd hC (fun I τ hL => ?_)
      rw [vl_some, b_245_55]
      refine LC_bd (L_alike (d := d + 44) hL (a := s) (b := s2) (f := seenF (g_S C)) (List.mem_cons_of_mem _ List.mem_cons_self) (by rw [hS]; exact List.mem_cons_self)) (fun I τ hL => ?_)
      rw [vl_some, b_245_56]
      refine RP_n (by decide) ?_
      rw [b_245_59]
      refine RP_n (er_nlt he) ?_
      rw [b_245_79, iN_add]
      exact ih (k + 1) _ _ _ _ _ _ _ _ (by omega) hL (hA1 hT) (by omega) (by omega) (by omega)
    · refine RP_n (ok_ne8 hm) (RP_y (ok_gt hm) ?_)
      rw [b_245_59]
      refine RP_y (ok_gt hm) ?_
      rw [iN_add]
      obtain ⟨r, hr, hC⟩ := L_in (d := d + 43) hL (t := 90 + k) (m := 5) (by omega) (by omega) (by omega)
      refine LC_bd hC (fun I τ hL => ?_)
      rw [vl_some, b_245_68]
      refine RP_if (fun _ => ?_) (fun _ => ?_)
      · obtain ⟨u, hu, hC⟩ := L_undo (d := d + 3) hL hH (iS_up hiC (by omega))
        refine LC_bd hC (fun I τ hL => ?_)
        rw [vl_some, b_245_71]
        refine RP_n (by rw [iN_lt (by omega) (by omega)]; omega) ?_
        have hC := L_seen (d := d + 2) hL
        generalize tZ τ = s2 at hC
        refine LC_bd hC (fun I τ hL => ?_)
        rw [vl_some, b_245_75]
        refine LC_bd (L_alike (d := d + 44) hL (a := s) (b := s2) (f := seenF (g_S C)) (List.mem_cons_of_mem _ List.mem_cons_self) List.mem_cons_self) (fun I τ hL => ?_)
        rw [vl_some, b_245_76]
        refine RP_n (by decide) ?_
        rw [b_245_79, iN_add]
        exact ih (k + 1) _ _ _ _ _ _ _ _ (by omega) hL (hA1 hT) hp (by omega) (by omega)
      · rw [b_245_79, iN_add]
        exact ih (k + 1) _ _ _ _ _ _ _ _ (by omega) hL (hA1 hT) (by omega) (by omega) (by omega)
theorem law_end {P : qq_O → qq_I → qq_R → Prop} {st : Nat} {x3 : Int32} {u5 u6 : Option Value} (h : LV E B n C I τ) (hT : g_T C = []) (hp : 3 ≤ p_np (s_P (g_S C))) (hB : B ≤ 28380) (hn : n ≤ 9100)
    (hP : ∀ I τ, tZ τ ≤ 308 + 20 * 10000 → tU τ ≤ 10000 + 400 * 10000 → P (.inl (some (.int (iN 1)))) I τ) : RP (RR (d + 45) 245 26 [some (.ref 1), some (.ref 70), some (.int (iN st)), some (.int x3), some (.int (iN 7)), u5, u6] [] (I, τ)) P := by
  have hw := LV_w h
  have hi := LV_i h
  rw [b_245_26]
  refine RP_n (by rw [iN_lt (by omega) (by omega)]; omega) ?_
  have hC := L_seen (d := d + 2) h
  generalize tZ τ = s at hC
  refine LC_bd hC (fun I τ hL => ?_)
  rw [vl_some, b_245_83]
  refine RP_gd (k70 hL) (LC_bd (L_save (d := d + 4) hL) (fun I τ hL => ?_))
  have e0 : g_S (t_save C) = g_S C := rfl
  rw [vl_some, b_245_86]
  refine LC_bd (L_ask hL (p_nightsUntilHome (d := d + 3) hL.1 (by omega) (iN 0)) (w_226 (iN 0) qi_nights (k70' hL)) (hav1 hav0)) (fun I τ hL => ?_)
  rw [vl_some, b_245_90]
  refine LC_bd (L_ask hL (p_byWeight (d := d + 3) hL.1 (iN 0)) (w_225 (iN 0) qi_byWeight (k70' hL)) (hav1 hav0)) (fun I τ hL => ?_)
  rw [vl_some, b_245_93]
  refine LC_bd (L_ask hL (p_byLast (d := d + 3) hL.1 (iN 0)) (w_230 (iN 0) qi_byLast (k70' hL)) (hav1 hav0)) (fun I τ hL => ?_)
  rw [vl_some, b_245_97]
  obtain ⟨ea, za⟩ := zb_after (k := 0) (m := 3) hw (by omega) (by omega)
  refine RP_gd (k70 hL) (LC_bd (L_dir hL (p_arrowAfter (d := d + 4) hL.1 (iN 0) (iN 3)) ea (hav1 (hav1 hav0))) (fun I τ hL => ?_))
  rw [vl_some, b_245_102]
  refine LC_bd (L_ask hL (p_fewest (d := d + 3) hL.1 (iN 20)) (w_231 (iN 20) qi_fewest (k70' hL)) (hav1 hav0)) (fun I τ hL => ?_)
  rw [vl_some, b_245_106]
  have zn : sb 5 (wv [0, 3] (q_nights (g_S C) (iN 0)) + wv [3] (q_byWeight (g_S C) (iN 0)) + wv [3] (q_byLast (g_S C) (iN 0)) + iN (it (p_ar (s_P (g_S C))) 3 0) + wv [1, 4] (q_fewest (g_S C) (iN 20))) :=
    zb_add (m := 4) (k := 1) (zb_add (m := 3) (k := 1) (zb_add (m := 2) (k := 1) (zb_add (m := 1) (k := 1) zb_nights (zb_byWeight hw (by omega)) (by omega)) (zb_byLast hw (by omega)) (by omega)) za (by omega)) zb_fewest (by omega)
  rw [e0]
  generalize wv [0, 3] (q_nights (g_S C) (iN 0)) + wv [3] (q_byWeight (g_S C) (iN 0)) + wv [3] (q_byLast (g_S C) (iN 0)) + iN (it (p_ar (s_P (g_S C))) 3 0) + wv [1, 4] (q_fewest (g_S C) (iN 20)) = z at zn ⊢
  have hC := L_seen (d := d + 2) hL
  generalize tZ τ = s2 at hC
  refine LC_bd hC (fun I τ hL => ?_)
  rw [vl_some, b_245_111]
  refine LC_bd (L_alike (d := d + 44) hL (a := s) (b := s2) (f := seenF (g_S C)) (List.mem_cons_of_mem _ List.mem_cons_self) List.mem_cons_self) (fun I τ hL => ?_)
  rw [vl_some, b_245_112]
  refine RP_n (by decide) ?_
  obtain ⟨v1, C1, A1, hC⟩ := L_221 (d := d + 3) hL (by omega) (iN 3) (iN 2)
  refine LC_bd hC (fun I τ hL => ?_)
  rw [vl_some, b_245_120]
  obtain ⟨v2, C2, A2, hC⟩ := L_219 (d := d + 3) hL (by omega) (iN 0) (iN 3) (iN 9)
  refine LC_bd hC (fun I τ hL => ?_)
  rw [vl_some, b_245_125]
  obtain ⟨v3, C3, A3, hC⟩ := L_223 (d := d + 3) hL (by omega) (iN 2)
  refine LC_bd hC (fun I τ hL => ?_)
  rw [vl_some, b_245_129]
  obtain ⟨w, hw2, hC⟩ := L_writ (d := d + 2) hL (a := 0) (by omega)
  refine LC_bd hC (fun I τ hL => ?_)
  rw [vl_some, b_245_134]
  obtain ⟨v4, C4, A4, hC⟩ := L_236 (d := d + 3) hL (by omega) (iN w)
  refine LC_bd hC (fun I τ hL => ?_)
  rw [vl_some, b_245_135]
  obtain ⟨v5, C5, A5, hC⟩ := L_216 (d := d + 3) hL (by omega) (iN 0) (iN 1)
  refine LC_bd hC (fun I τ hL => ?_)
  rw [vl_some, b_245_140]
  have zz : sb 10 (z + (v1 + v2 + v3 + v4 + v5)) :=
    zb_add (m := 5) (k := 5) zn (zb_add (m := 4) (k := 1) (zb_add (m := 3) (k := 1) (zb_add (m := 2) (k := 1) (zb_add (m := 1) (k := 1) (zb_AC A1) (zb_AC A2) (by omega)) (zb_AC A3) (by omega)) (zb_AC A4) (by omega)) (zb_AC A5) (by omega)) (by omega)
  refine RP_y (zb_gt zz (by omega)) ?_
  have hZ : g_Z C5 = some (g_S C) := by rw [A5.2.2.2, A4.2.2.2, A3.2.2.2, A2.2.2.2, A1.2.2.2]; rfl
  refine LC_bd (L_rest (d := d + 3) hL hZ (iS_up hi (by omega))) (fun I τ hL => ?_)
  rw [vl_some, b_245_148]
  refine RP_y rfl ?_
  have hC := L_seen (d := d + 2) hL
  generalize tZ τ = s3 at hC
  refine LC_bd hC (fun I τ hL => ?_)
  rw [vl_some, b_245_153]
  refine LC_bd (L_alike (d := d + 44) hL (a := s) (b := s3) (f := seenF (g_S C)) (List.mem_cons_of_mem _ (List.mem_cons_of_mem _ List.mem_cons_self)) List.mem_cons_self) (fun I τ hL => ?_)
  rw [vl_some, b_245_154]
  refine RP_n (by decide) ?_
  refine LC_bd (L_undo0 (d := d + 3) hL rfl) (fun I τ hL => ?_)
  rw [vl_some, b_245_157]
  refine RP_y rfl ?_
  rw [b_245_162]
  refine RP_gd (of_eq_true nr_b1) (RP_ret ?_)
  obtain ⟨h1, h2⟩ := (LV_up (n' := 10000) hL (by omega)).2.2.2.2.2.1
  exact hP _ _ h1 h2
/-- the law's answer, and its room -/
theorem law_run (h : L0 I τ) : ∃ I' τ', CC (d + 45) 245 [.ref 1] (I, τ) = some (.inl (some (.int (iN 1))), (I', τ')) ∧ tZ τ' ≤ 70 + 600312 ∧ tU τ' ≤ 7291745 := by
  have key : RP (CC (d + 45) 245 [.ref 1] (I, τ)) (fun o I' τ' => o = .inl (some (.int (iN 1))) ∧ tZ τ' ≤ 70 + 600312 ∧ tU τ' ≤ 7291745) := by
    rw [c_245, b_245_0]
    refine RP_bd (L_start (d := d) h (P := fun o I τ => o = .inl (some (.ref 70)) ∧ ∃ C, LV [] 23760 36 C I τ ∧ g_T C = [] ∧ 3 ≤ p_np (s_P (g_S C))) (fun C I τ h1 h2 h3 => ⟨rfl, C, h1, h2, h3⟩)) (fun o I τ hq => ?_)
    obtain ⟨rfl, C, hL, hT, hp⟩ := hq
    refine ⟨_, rfl, ?_⟩
    rw [vl_some, b_245_2]
    obtain ⟨st, hst, hC⟩ := L_in (d := d + 43) hL (t := 60) (m := 10000) (by omega) (by omega) (by omega)
    refine LC_bd hC (fun I τ hL => ?_)
    rw [vl_some, b_245_7]
    obtain ⟨r, hr, hC⟩ := L_in (d := d + 43) hL (t := 61) (m := 60) (by omega) (by omega) (by omega)
    refine LC_bd hC (fun I τ hL => ?_)
    rw [vl_some, b_245_13]
    refine RP_gd (by decide) (RP_n (by decide) ?_)
    refine LC_bd (L_well (d := d + 2) hL (by omega)) (fun I τ hL => ?_)
    rw [vl_some, b_245_21]
    refine RP_n (by decide) ?_
    exact law_loop (by omega) (fun E B n C I τ u5 u6 h1 h2 h3 h4 h5 => law_end h1 h2 h3 h4 h5 (fun I τ hz hu => ⟨rfl, by omega, by omega⟩)) 7 0 _ _ _ _ _ _ _ _ (by omega) hL hT hp (by omega) (by omega)
  obtain ⟨o, I', τ', h1, rfl, h2⟩ := key
  exact ⟨I', τ', h1, h2⟩
end LF
