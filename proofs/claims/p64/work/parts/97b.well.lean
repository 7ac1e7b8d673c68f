/-! isWell: the pedestals -/
section WA
variable {d B st : Nat} {x2 : Int32} {C : sC} {E : List (Nat × (Nat → Int32))} {P : qq_O → qq_I → qq_R → Prop}
theorem we_1 {N9 : Nat} (hst : st ≤ 9999) (K : ∀ n u4 u5 u6 I τ, LV E B n C I τ → n ≤ N9 → RP (RR (d + 42) 244 65 [some (.ref 70), some (.int (iN st)), some (.int x2), some (.int (iN 0)), u4, u5, u6, none, none, none] [] (I, τ)) P) :
    ∀ j k n u4 u5 u6 I τ, k + j = p_np (s_P (g_S C)) → LV E B n C I τ → n + 10 * j + 1 ≤ N9 → RP (RR (d + 42) 244 2 [some (.ref 70), some (.int (iN st)), some (.int x2), some (.int (iN k)), u4, u5, u6, none, none, none] [] (I, τ)) P := by
  intro j
  induction j with
  | zero =>
    intro k n u4 u5 u6 I τ hk hL hn
    have hw := LV_w hL
    have h8 := hw.2.1.1
    rw [b_244_2]
    refine RP_gd (k70 hL) (LC_bd (L_dir hL (p_pedestalCount (d := d + 1) hL.1) (rfl) hav0) ?_)
    clear hL
    intro I τ hL
    rw [vl_some, b_244_5]
    refine RP_n (by rw [iN_lt (by omega) (by omega)]; omega) ?_
    exact K _ _ _ _ _ _ hL (by omega)
  | succ j ih =>
    intro k n u4 u5 u6 I τ hk hL hn
    have hw := LV_w hL
    have h8 := hw.2.1.1
    have hk' : k < p_np (s_P (g_S C)) := by omega
    have hr := rlen_ok hw.2.1 hk'
    rw [b_244_2]
    refine RP_gd (k70 hL) (LC_bd (L_dir hL (p_pedestalCount (d := d + 1) hL.1) (rfl) hav0) ?_)
    clear hL
    intro I τ hL
    rw [vl_some, b_244_5]
    refine RP_y (by rw [iN_lt (by omega) (by omega)]; exact hk') ?_
    refine RP_gd (k70 hL) (LC_bd (L_dir hL (p_arrowAfter (d := d + 1) hL.1 (iN k) (iN st)) (qt_after hw hk' hst) (hav1 (hav1 hav0))) ?_)
    clear hL
    intro I τ hL
    rw [vl_some, b_244_10]
    refine RP_gd (k70 hL) (LC_bd (L_dir hL (p_round (d := d + 1) hL.1 (iN k)) (qt_round hw hk') (hav1 hav0)) ?_)
    clear hL
    intro I τ hL
    rw [vl_some, b_244_14]
    refine LC_bd (L_ask hL (p_statueOn (d := d) hL.1 (iN k)) (w_224 (iN k) (qi_on) (k70' hL)) (hav1 hav0)) ?_
    clear hL
    intro I τ hL
    rw [vl_some, b_244_18]
    refine RP_gd (k70 hL) (LC_bd (L_dir hL (p_byDoubling (d := d + 1) hL.1 (iN k) (iN st)) (qt_after hw hk' hst) (hav1 (hav1 hav0))) ?_)
    clear hL
    intro I τ hL
    rw [vl_some, b_244_24]
    refine RP_y rfl ?_
    rw [iN_add]
    refine RP_gd (k70 hL) (LC_bd (L_dir hL (p_arrowAfter (d := d + 1) hL.1 (iN k) (iN (8 + rlen (s_P (g_S C)) k))) (qt_after hw hk' (by omega)) (hav1 (hav1 hav0))) ?_)
    clear hL
    intro I τ hL
    rw [vl_some, b_244_31]
    refine RP_gd (k70 hL) (LC_bd (L_dir hL (p_arrowAfter (d := d + 1) hL.1 (iN k) (iN 8)) (qt_after hw hk' (by omega)) (hav1 (hav1 hav0))) ?_)
    clear hL
    intro I τ hL
    rw [vl_some, b_244_35]
    refine RP_y (congrArg iN (rl_it hw.2.1 hk')) ?_
    refine RP_n (by rw [iN_lt (by omega) (by omega)]; omega) ?_
    refine RP_gd (k70 hL) (LC_bd (L_dir hL (p_pedestalCount (d := d + 1) hL.1) (rfl) hav0) ?_)
    clear hL
    intro I τ hL
    rw [vl_some, b_244_42]
    refine RP_n (by rw [iN_lt (by omega) (by omega)]; omega) ?_
    refine RP_gd (k70 hL) (LC_bd (L_dir hL (p_isFree (d := d + 1) hL.1 (iN k)) (qt_free hw hk') (hav1 hav0)) ?_)
    clear hL
    intro I τ hL
    rw [vl_some, b_244_46, qt_on hw hk']
    cases hon : onP (s_P (g_S C)) k with
    | none =>
      refine RP_y (er_neg 1 (by omega)) ?_
      rw [b_244_51]
      refine RP_y rfl (RP_y (er_neg 1 (by omega)) ?_)
      rw [b_244_61, iN_add]
      exact ih (k + 1) _ _ _ _ _ _ (by omega) hL (by omega)
    | some i =>
      obtain ⟨o1, o2⟩ := on_some hon
      have o3 := hw.2.1.2.1
      refine RP_n (show ¬ iN i < iN 0 by rw [iN_lt (by omega) (by omega)]; omega) ?_
      rw [b_244_51]
      refine RP_y rfl (RP_n (show ¬ iN i < iN 0 by rw [iN_lt (by omega) (by omega)]; omega) ?_)
      refine RP_gd (k70 hL) (LC_bd (L_dir hL (p_place (d := d + 1) hL.1 (iN i)) (qt_sta hw o1) (hav1 hav0)) ?_)
      clear hL
      intro I τ hL
      rw [vl_some, b_244_57]
      refine RP_y (congrArg iN o2) ?_
      rw [b_244_61, iN_add]
      exact ih (k + 1) _ _ _ _ _ _ (by omega) hL (by omega)
end WA
