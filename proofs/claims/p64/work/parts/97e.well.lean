/-! isWell: the blocks, and its end -/
def blI (S : sS) (w : Nat) : Int32 := iN (m_bl (s_M S) w)
section WE
variable {d B N9 : Nat} {x1 x2 : Int32} {C : sC} {E : List (Nat × (Nat → Int32))} {P : qq_O → qq_I → qq_R → Prop}
theorem we_4b {x3 x4 x5 x6 : Int32} (K : ∀ n u9 I τ, LV E B n C I τ → n ≤ N9 → RP (RR (d + 42) 244 239 [some (.ref 70), some (.int x1), some (.int x2), some (.int x3), some (.int x4), some (.int x5), some (.int x6), some (.int (m_tr (s_M (g_S C)) + sA (blI (g_S C)) 20)), some (.int (iN 21)), u9] [.int (iN (gr (s_U (g_S C)) (fnt (g_S C)) (un (s_U (g_S C)))).sum)] (I, τ)) P) :
    ∀ j w n u9 I τ, w + j = 20 → LV E B n C I τ → n + j + 1 ≤ N9 → RP (RR (d + 42) 244 224 [some (.ref 70), some (.int x1), some (.int x2), some (.int x3), some (.int x4), some (.int x5), some (.int x6), some (.int (m_tr (s_M (g_S C)) + sA (blI (g_S C)) w)), some (.int (iN (w + 1))), u9] [] (I, τ)) P := by
  intro j
  induction j with
  | zero =>
    intro w n u9 I τ hk hL hn
    have e : w = 20 := by omega
    subst e
    rw [b_244_224]
    refine RP_y (by decide) ?_
    refine RP_gd (k70 hL) (LC_bd (L_dir hL (p_docketValue (d := d + 1) hL.1) (rfl) hav0) ?_)
    clear hL
    intro I τ hL
    exact K _ _ _ _ hL (by omega)
  | succ j ih =>
    intro w n u9 I τ hk hL hn
    rw [b_244_224]
    refine RP_n (by rw [iN_lt (by omega) (by omega)]; omega) ?_
    refine RP_gd (k70 hL) (LC_bd (L_dir hL (p_blocks (d := d + 1) hL.1 (iN (w + 1))) (qt_blocks (by omega) (by omega)) (hav1 hav0)) ?_)
    clear hL
    intro I τ hL
    rw [vl_some, b_244_232, iN_add, Int32.add_assoc]
    exact ih (w + 1) _ _ _ _ (by omega) hL (by omega)
theorem we_4 : ∀ n u8 u9 I τ, LV E B n C I τ → n + 40 ≤ N9 → RP (RR (d + 42) 244 221 [some (.ref 70), some (.int x1), some (.int x2), some (.int (iN (su (fP (s_U (g_S C))) (un (s_U (g_S C)))))), some (.int (iN (su (fun k => w_ba (ug (s_U (g_S C)) k)) (un (s_U (g_S C)))))), some (.int (iN (su (fF (s_U (g_S C))) (un (s_U (g_S C)))))), some (.int (iN (su (fun k => dpU (s_U (g_S C)) 8 k) (un (s_U (g_S C)))))), some (.int (iN (un (s_U (g_S C))))), u8, u9] [.int (m_tr (s_M (g_S C)))] (I, τ)) (fun o I τ => o = .inl (some (.int (iN 1))) ∧ LV E B N9 C I τ) := by
  intro n u8 u9 I τ hL hn
  have hw := LV_w hL
  have hU := hw.2.2.1
  have h8 := hU.1
  have hB := LV_B hL
  obtain ⟨hi1, t, ht1, ht2, ht3⟩ := LV_i hL
  have hp1 : pdl (s_U (g_S C)).1 = su (fP (s_U (g_S C))) (un (s_U (g_S C))) := pdl_un (s_U (g_S C))
  have hb1 := su_le (f := fun k => w_ba (ug (s_U (g_S C)) k)) (B := 60) (un (s_U (g_S C))) (fun k hk => (hU.2.2.2 k hk).2.2.2.1)
  have hb2 : su (fun k => w_ba (ug (s_U (g_S C)) k)) (un (s_U (g_S C))) ≤ 480 := Nat.le_trans hb1 (by omega)
  have hg := gr_bails (s_U (g_S C)) (fnt (g_S C))
  have hm := gr_mxs (s_U (g_S C)) (fnt (g_S C))
  have hf : su (fF (s_U (g_S C))) (un (s_U (g_S C))) = su (fun k => dpU (s_U (g_S C)) 8 k) (un (s_U (g_S C))) := fol_dep hU
  have hma : m_tr (s_M (g_S C)) + sA (blI (g_S C)) 20 = m_ad (s_M (g_S C)) := hw.2.2.2.2.2.2.2.2
  rw [b_244_221]
  have e0 : m_tr (s_M (g_S C)) = m_tr (s_M (g_S C)) + sA (blI (g_S C)) 0 := (Int32.add_zero _).symm
  rw [e0]
  refine we_4b (N9 := n + 21) (fun n9 u9 I τ hL hn9 => ?_) 20 0 _ _ _ _ rfl hL (by omega)
  rw [b_244_239]
  refine LC_bd (L_ask hL (p_fewest (d := d) hL.1 x2) (w_231 x2 (qi_fewest) (k70' hL)) (hav1 hav0)) ?_
  clear hL
  intro I τ hL
  rw [vl_some, b_244_243]
  refine LC_bd (L_ask hL (p_fewestBySearch (d := d) hL.1 x2) (w_232 x2 (qi_fewest) (k70' hL)) (hav1 hav0)) ?_
  clear hL
  intro I τ hL
  rw [vl_some, b_244_246]
  refine RP_y rfl ?_
  rw [b_244_250]
  refine RP_n (by decide) (RP_y (congrArg iN hf) ?_)
  refine RP_gd (k70 hL) (LC_bd (L_dir hL (p_docketBySets (d := d + 1) hL.1) (rfl) hav0) ?_)
  clear hL
  intro I τ hL
  rw [vl_some, b_244_259]
  refine RP_y (congrArg iN hm) (RP_n (by rw [iN_lt (by omega) (by omega)]; omega) ?_)
  refine RP_gd (k70 hL) (LC_bd (L_dir hL (p_treasury (d := d + 1) hL.1) (rfl) hav0) ?_)
  clear hL
  intro I τ hL
  rw [vl_some, b_244_265]
  refine RP_n (by rw [ht1, iN_lt (by omega) (by omega)]; omega) ?_
  refine RP_gd (k70 hL) (LC_bd (L_dir hL (p_marbleTotal (d := d + 1) hL.1) (rfl) hav0) ?_)
  clear hL
  intro I τ hL
  rw [vl_some, b_244_270]
  refine RP_y (Int32.add_comm _ _) ?_
  refine RP_gd (k70 hL) (LC_bd (L_dir hL (p_byAccounts (d := d + 1) hL.1) (rfl) hav0) ?_)
  clear hL
  intro I τ hL
  rw [vl_some, b_244_274]
  refine RP_y hma ?_
  refine RP_gd (k70 hL) (LC_bd (L_dir hL (p_isConsistent (d := d + 1) hL.1) (rfl) hav0) ?_)
  clear hL
  intro I τ hL
  rw [vl_some, decide_eq_true hm, b_244_277]
  refine RP_n (by decide) ?_
  rw [b_244_281]
  refine RP_gd (of_eq_true nr_b1) (RP_ret ⟨rfl, LV_up hL (by omega)⟩)
/-- isWell answers true -/
theorem L_well {n st : Nat} {I : qq_I} {τ : qq_R} (h : LV E B n C I τ) (hst : st ≤ 9999) : LC (d + 42) 244 [.ref 70, .int (iN st), .int x2] I τ (some (.int (iN 1))) (LV E B (n + 600) C) := by
  have hw := LV_w h
  have h1 := hw.2.1.1
  have h2 := hw.2.1.2.1
  have h3 := hw.2.2.1.1
  refine LC_of ?_
  rw [c_244, b_244_0]
  refine we_1 (N9 := n + 81) hst (fun n1 u4 u5 u6 I τ hL hn1 => ?_) (p_np (s_P (g_S C))) 0 n _ _ _ I τ (Nat.zero_add _) h (by omega)
  refine we_2 (N9 := n + 394) (fun n2 I τ hL hn2 => ?_) (p_ns (s_P (g_S C))) 0 n1 _ _ _ I τ (Nat.zero_add _) hL (by omega)
  refine we_3 (N9 := n + 516) (fun n3 u8 u9 I τ hL hn3 => ?_) (un (s_U (g_S C))) 0 n2 _ _ I τ (Nat.zero_add _) hL (by omega)
  exact we_4 (N9 := n + 600) n3 u8 u9 I τ hL (by omega)
end WE
