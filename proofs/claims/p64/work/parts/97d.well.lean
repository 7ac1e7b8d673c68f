/-! isWell: the writs -/
def fP (U : sU) (k : Nat) : Nat := if w_pd (ug U k) = 1 then w_ba (ug U k) else 0
def fF (U : sU) (k : Nat) : Nat := cn (beU U k 8) (un U) - 1
section WD
variable {d B N9 : Nat} {x1 x2 : Int32} {C : sC} {E : List (Nat × (Nat → Int32))} {P : qq_O → qq_I → qq_R → Prop}
/-- from the writ's cause on -/
theorem we_3c {k : Nat} {x3 x4 x5 x6 : Int32} (hk : k < un (s_U (g_S C))) {ca : Int32} (hca : ca = wv [3] (q_cause (g_S C) (iN (w_id (ug (s_U (g_S C)) k)))))
    (K : ∀ n I τ, LV E B n C I τ → n ≤ N9 → RP (RR (d + 42) 244 138 [some (.ref 70), some (.int x1), some (.int x2), some (.int x3), some (.int x4), some (.int x5), some (.int x6), some (.int (iN (k + 1))), some (.int (iN (w_id (ug (s_U (g_S C)) k)))), some (.int ca)] [] (I, τ)) P) :
    ∀ n I τ, LV E B n C I τ → n + 5 ≤ N9 → RP (RR (d + 42) 244 183 [some (.ref 70), some (.int x1), some (.int x2), some (.int x3), some (.int x4), some (.int x5), some (.int x6), some (.int (iN k)), some (.int (iN (w_id (ug (s_U (g_S C)) k)))), some (.int ca)] [.int (iN (w_la (ug (s_U (g_S C)) k)))] (I, τ)) P := by
  intro n I τ hL hn
  have hw := LV_w hL
  have hi := LV_i hL
  have hU := hw.2.2.1
  have h8 := hU.1
  have hB := LV_B hL
  have hni := hw.2.2.2.2.1
  have hla := (hw.2.2.2.2.2.1 k hk).2
  have hil : s_ni (g_S C) ≤ w_la (ug (s_U (g_S C)) k) := (hi.1 (ug (s_U (g_S C)) k) (by rw [ug_get hk]; exact List.getElem_mem _)).1
  have hid := id_bd hw hk
  have hdp := dpU_le hU 8 k hk
  -- the last rows
  have L206 : ∀ n I τ, LV E B n C I τ → n + 1 ≤ N9 → RP (RR (d + 42) 244 206 [some (.ref 70), some (.int x1), some (.int x2), some (.int x3), some (.int x4), some (.int x5), some (.int x6), some (.int (iN k)), some (.int (iN (w_id (ug (s_U (g_S C)) k)))), some (.int ca)] [] (I, τ)) P := by
    intro n I τ hL hn
    rw [b_244_206]
    by_cases h0 : 0 < k
    · refine RP_y (by rw [iN_lt (by omega) (by omega)]; exact h0) ?_
      rw [iN_sub (by omega)]
      have hk1 : k - 1 < un (s_U (g_S C)) := by omega
      have hid1 := id_bd hw hk1
      have hlt := hU.2.2.1 (k - 1) k (by omega) hk
      refine RP_gd (k70 hL) (LC_bd (L_dir hL (p_writAt (d := d + 1) hL.1 (iN (k - 1))) (qt_writAt hw hk1) (hav1 hav0)) ?_)
      clear hL
      intro I τ hL
      rw [vl_some, b_244_213]
      refine RP_y (by rw [iN_lt (by omega) (by omega)]; exact hlt) ?_
      rw [b_244_217, iN_add]
      exact K _ _ _ hL (by omega)
    · refine RP_n (by rw [iN_lt (by omega) (by omega)]; exact h0) ?_
      rw [b_244_217, iN_add]
      exact K _ _ _ hL (by omega)
  rw [b_244_183]
  refine RP_gd (k70 hL) (LC_bd (L_dir hL (p_night (d := d + 1) hL.1) (rfl) hav0) ?_)
  clear hL
  intro I τ hL
  rw [vl_some, b_244_185]
  refine RP_n (by rw [iN_lt (by omega) (by omega)]; omega) ?_
  rw [qt_cause hw hk] at hca
  by_cases h0 : w_ca (ug (s_U (g_S C)) k) = 0
  · rw [if_pos h0] at hca
    have hneg : ca < iN 0 := by rw [hca]; exact er_neg 0 (by omega)
    refine RP_y hneg ?_
    rw [b_244_200]
    refine RP_y hneg ?_
    refine RP_gd (k70 hL) (LC_bd (L_dir hL (p_causeDepth (d := d + 1) hL.1 (iN (w_id (ug (s_U (g_S C)) k)))) (qt_wr hw hk) (hav1 hav0)) ?_)
    clear hL
    intro I τ hL
    rw [vl_some, b_244_205]
    refine RP_y (by rw [dp_none ((pa_none hU hk).mpr h0)]) ?_
    exact L206 _ _ _ hL (by omega)
  · rw [if_neg h0] at hca
    have hca : ca = iN (w_ca (ug (s_U (g_S C)) k) - 1) := hca
    obtain ⟨j, hj, hcj⟩ := ((hU.2.2.2 k hk).2.2.2.2.2.2).resolve_left h0
    have hju : j < un (s_U (g_S C)) := by omega
    have hidj := id_bd hw hju
    have hlt := hU.2.2.1 j k hj hk
    have hca : ca = iN (w_id (ug (s_U (g_S C)) j)) := by rw [hca, hcj, Nat.add_sub_cancel]
    have hpa : pa (s_U (g_S C)) k = some j := by
      unfold pa
      rw [if_neg h0, hcj, Nat.add_sub_cancel]
      exact fi_at hU hju
    have hpos : ¬ ca < iN 0 := by rw [hca, iN_lt (by omega) (by omega)]; omega
    refine RP_n hpos (RP_y (by rw [hca, iN_lt (by omega) (by omega)]; exact hlt) ?_)
    rw [hca] at L206 ⊢
    rw [hca] at hpos
    refine LC_bd (L_ask hL (p_causeDepth (d := d) hL.1 (iN (w_id (ug (s_U (g_S C)) j)))) (w_229 (iN (w_id (ug (s_U (g_S C)) j))) (qi_wr) (k70' hL)) (hav1 hav0)) ?_
    clear hL
    intro I τ hL
    rw [vl_some, b_244_194, qt_wr hw hju]
    refine RP_gd (k70 hL) (LC_bd (L_dir hL (p_causeDepth (d := d + 1) hL.1 (iN (w_id (ug (s_U (g_S C)) k)))) (qt_wr hw hk) (hav1 hav0)) ?_)
    clear hL
    intro I τ hL
    rw [vl_some, b_244_199]
    refine RP_y (by rw [dp_step hU hk hpa]; exact iN_add _ _) ?_
    rw [b_244_200]
    refine RP_n hpos ?_
    exact L206 _ _ _ hL (by omega)
theorem we_3 (K : ∀ n u8 u9 I τ, LV E B n C I τ → n ≤ N9 → RP (RR (d + 42) 244 221 [some (.ref 70), some (.int x1), some (.int x2), some (.int (iN (su (fP (s_U (g_S C))) (un (s_U (g_S C)))))), some (.int (iN (su (fun k => w_ba (ug (s_U (g_S C)) k)) (un (s_U (g_S C)))))), some (.int (iN (su (fF (s_U (g_S C))) (un (s_U (g_S C)))))), some (.int (iN (su (fun k => dpU (s_U (g_S C)) 8 k) (un (s_U (g_S C)))))), some (.int (iN (un (s_U (g_S C))))), u8, u9] [.int (m_tr (s_M (g_S C)))] (I, τ)) P) :
    ∀ j k n u8 u9 I τ, k + j = un (s_U (g_S C)) → LV E B n C I τ → n + 15 * j + 2 ≤ N9 → RP (RR (d + 42) 244 138 [some (.ref 70), some (.int x1), some (.int x2), some (.int (iN (su (fP (s_U (g_S C))) k))), some (.int (iN (su (fun k => w_ba (ug (s_U (g_S C)) k)) k))), some (.int (iN (su (fF (s_U (g_S C))) k))), some (.int (iN (su (fun k => dpU (s_U (g_S C)) 8 k) k))), some (.int (iN k)), u8, u9] [] (I, τ)) P := by
  intro j
  induction j with
  | zero =>
    intro k n u8 u9 I τ hk hL hn
    have hw := LV_w hL
    have h8 := hw.2.2.1.1
    rw [b_244_138]
    refine RP_gd (k70 hL) (LC_bd (L_dir hL (p_writCount (d := d + 1) hL.1) (rfl) hav0) ?_)
    clear hL
    intro I τ hL
    rw [vl_some, b_244_141]
    refine RP_n (by rw [iN_lt (by omega) (by omega)]; omega) ?_
    refine RP_gd (k70 hL) (LC_bd (L_dir hL (p_treasury (d := d + 1) hL.1) (rfl) hav0) ?_)
    clear hL
    intro I τ hL
    have e : k = un (s_U (g_S C)) := by omega
    subst e
    exact K _ _ _ _ _ hL (by omega)
  | succ j ih =>
    intro k n u8 u9 I τ hk hL hn
    have hw := LV_w hL
    have hU := hw.2.2.1
    have h8 := hU.1
    have hk' : k < un (s_U (g_S C)) := by omega
    have w7 := (hU.2.2.2 k hk').2.2.2.2.1
    rw [b_244_138]
    refine RP_gd (k70 hL) (LC_bd (L_dir hL (p_writCount (d := d + 1) hL.1) (rfl) hav0) ?_)
    clear hL
    intro I τ hL
    rw [vl_some, b_244_141]
    refine RP_y (by rw [iN_lt (by omega) (by omega)]; exact hk') ?_
    refine RP_gd (k70 hL) (LC_bd (L_dir hL (p_writAt (d := d + 1) hL.1 (iN k)) (qt_writAt hw hk') (hav1 hav0)) ?_)
    clear hL
    intro I τ hL
    rw [vl_some, b_244_145]
    refine LC_bd (L_ask hL (p_causeOf (d := d) hL.1 (iN (w_id (ug (s_U (g_S C)) k)))) (w_228 (iN (w_id (ug (s_U (g_S C)) k))) (qi_cause) (k70' hL)) (hav1 hav0)) ?_
    clear hL
    intro I τ hL
    rw [vl_some, b_244_149]
    refine RP_gd (k70 hL) (LC_bd (L_dir hL (p_isPaid (d := d + 1) hL.1 (iN (w_id (ug (s_U (g_S C)) k)))) (qt_wr hw hk') (hav1 hav0)) ?_)
    clear hL
    intro I τ hL
    rw [vl_some, b_244_154]
    have L160 : ∀ n I τ, LV E B n C I τ → n + 9 ≤ N9 - 15 * j - 2 → RP (RR (d + 42) 244 160 [some (.ref 70), some (.int x1), some (.int x2), some (.int (iN (su (fP (s_U (g_S C))) k))), some (.int (iN (su (fun k => w_ba (ug (s_U (g_S C)) k)) k))), some (.int (iN (su (fF (s_U (g_S C))) k))), some (.int (iN (su (fun k => dpU (s_U (g_S C)) 8 k) k))), some (.int (iN k)), some (.int (iN (w_id (ug (s_U (g_S C)) k)))), some (.int (wv [3] (q_cause (g_S C) (iN (w_id (ug (s_U (g_S C)) k))))))] [.int (iN (fP (s_U (g_S C)) k)), .int (iN (su (fP (s_U (g_S C))) k))] (I, τ)) P := by
      intro n I τ hL hn
      rw [b_244_160, iN_add]
      refine RP_gd (k70 hL) (LC_bd (L_dir hL (p_bail (d := d + 1) hL.1 (iN (w_id (ug (s_U (g_S C)) k)))) (qt_wr hw hk') (hav1 hav0)) ?_)
      clear hL
      intro I τ hL
      rw [vl_some, b_244_166, iN_add]
      refine RP_gd (k70 hL) (LC_bd (L_dir hL (p_followers (d := d + 1) hL.1 (iN (w_id (ug (s_U (g_S C)) k)))) (qt_wr hw hk') (hav1 hav0)) ?_)
      clear hL
      intro I τ hL
      rw [vl_some, b_244_172, iN_sub (cn_pos be_self _ hk'), iN_add]
      refine RP_gd (k70 hL) (LC_bd (L_dir hL (p_causeDepth (d := d + 1) hL.1 (iN (w_id (ug (s_U (g_S C)) k)))) (qt_wr hw hk') (hav1 hav0)) ?_)
      clear hL
      intro I τ hL
      rw [vl_some, b_244_178, iN_add]
      refine RP_gd (k70 hL) (LC_bd (L_dir hL (p_lastNight (d := d + 1) hL.1 (iN (w_id (ug (s_U (g_S C)) k)))) (qt_wr hw hk') (hav1 hav0)) ?_)
      clear hL
      intro I τ hL
      rw [vl_some]
      exact we_3c (N9 := n + 9) hk' rfl (fun n9 I τ hL hn9 => ih (k + 1) n9 _ _ _ _ (by omega) hL (by omega)) _ _ _ hL (by omega)
    by_cases hp : w_pd (ug (s_U (g_S C)) k) = 0
    · refine RP_y (congrArg iN hp) ?_
      have e : fP (s_U (g_S C)) k = 0 := by unfold fP; rw [if_neg (by omega)]
      rw [e] at L160
      exact L160 _ _ _ hL (by omega)
    · refine RP_n (fun z => hp (by rw [iN_eq (by omega) (by omega)] at z; exact z)) ?_
      refine RP_gd (k70 hL) (LC_bd (L_dir hL (p_bail (d := d + 1) hL.1 (iN (w_id (ug (s_U (g_S C)) k)))) (qt_wr hw hk') (hav1 hav0)) ?_)
      clear hL
      intro I τ hL
      rw [vl_some, b_244_158]
      have e : fP (s_U (g_S C)) k = w_ba (ug (s_U (g_S C)) k) := by unfold fP; rw [if_pos (by omega)]
      rw [e] at L160
      exact L160 _ _ _ hL (by omega)
end WD
