/-! isWell: the statues -/
theorem ff_snoc {f : Nat → Bool} : ∀ n i, (ff f i (n + 1)).isSome = ((ff f i n).isSome || f (i + n)) := by
  intro n
  induction n with
  | zero =>
    intro i
    by_cases h : f i = true
    · rw [ff_y h, Nat.add_zero, h]; rfl
    · rw [ff_n h, Nat.add_zero]
      show false = (false || f i)
      cases hf : f i
      · rfl
      · exact absurd hf h
  | succ n ih =>
    intro i
    by_cases h : f i = true
    · rw [ff_y h, ff_y h]; rfl
    · rw [ff_n h, ih, ff_n h, show i + 1 + n = i + (n + 1) by omega]
def acB (U : sU) (k j : Nat) : Bool := (ff (fun i => (w_of (ug U i) == k) && (w_pd (ug U i) == 0)) 0 j).isSome
theorem acB_s (U : sU) (k j : Nat) : acB U k (j + 1) = (acB U k j || ((w_of (ug U j) == k) && (w_pd (ug U j) == 0))) := by
  unfold acB
  rw [ff_snoc, Nat.zero_add]
theorem b01_or (p q : Bool) : b01 p ||| b01 q = b01 (p || q) := by cases p <;> cases q <;> decide
theorem b01_inj {p q : Bool} (h : p = q) : b01 p = b01 q := congrArg b01 h
section WB
variable {d B N9 : Nat} {x1 x2 : Int32} {C : sC} {E : List (Nat × (Nat → Int32))} {P : qq_O → qq_I → qq_R → Prop}
theorem we_2b {k : Nat} {u6 : Option Value} (hk : k < p_ns (s_P (g_S C))) (K : ∀ n I τ, LV E B n C I τ → n ≤ N9 → RP (RR (d + 42) 244 101 [some (.ref 70), some (.int x1), some (.int x2), some (.int (iN k)), some (.int (b01 (bU (s_U (g_S C)) k))), some (.int (iN (un (s_U (g_S C))))), u6, none, none, none] [.int (b01 (bU (s_U (g_S C)) k))] (I, τ)) P) :
    ∀ m j n I τ, j + m = un (s_U (g_S C)) → LV E B n C I τ → n + 5 * m + 2 ≤ N9 → RP (RR (d + 42) 244 73 [some (.ref 70), some (.int x1), some (.int x2), some (.int (iN k)), some (.int (b01 (acB (s_U (g_S C)) k j))), some (.int (iN j)), u6, none, none, none] [] (I, τ)) P := by
  intro m
  induction m with
  | zero =>
    intro j n I τ hj hL hn
    have hw := LV_w hL
    have h8 := hw.2.2.1.1
    rw [b_244_73]
    refine RP_gd (k70 hL) (LC_bd (L_dir hL (p_writCount (d := d + 1) hL.1) (rfl) hav0) ?_)
    clear hL
    intro I τ hL
    rw [vl_some, b_244_76]
    refine RP_n (by rw [iN_lt (by omega) (by omega)]; omega) ?_
    refine RP_gd (k70 hL) (LC_bd (L_dir hL (p_isBound (d := d + 1) hL.1 (iN k)) (qt_sta hw hk) (hav1 hav0)) ?_)
    clear hL
    intro I τ hL
    have e : j = un (s_U (g_S C)) := by omega
    subst e
    exact K _ _ _ hL (by omega)
  | succ m ih =>
    intro j n I τ hj hL hn
    have hw := LV_w hL
    have h8 := hw.2.2.1.1
    have h6 := hw.2.1.2.1
    have hj' : j < un (s_U (g_S C)) := by omega
    have w6 := (hw.2.2.1.2.2.2 j hj').2.1
    have w7 := (hw.2.2.1.2.2.2 j hj').2.2.2.2.1
    rw [b_244_73]
    refine RP_gd (k70 hL) (LC_bd (L_dir hL (p_writCount (d := d + 1) hL.1) (rfl) hav0) ?_)
    clear hL
    intro I τ hL
    rw [vl_some, b_244_76]
    refine RP_y (by rw [iN_lt (by omega) (by omega)]; exact hj') ?_
    refine RP_gd (k70 hL) (LC_bd (L_dir hL (p_writAt (d := d + 1) hL.1 (iN j)) (qt_writAt hw hj') (hav1 hav0)) ?_)
    clear hL
    intro I τ hL
    rw [vl_some, b_244_82]
    refine RP_gd (k70 hL) (LC_bd (L_dir hL (p_statueOf (d := d + 1) hL.1 (iN (w_id (ug (s_U (g_S C)) j)))) (qt_wr hw hj') (hav1 hav0)) ?_)
    clear hL
    intro I τ hL
    rw [vl_some, b_244_83]
    have ih' := ih (j + 1)
    rw [acB_s] at ih'
    by_cases ho : w_of (ug (s_U (g_S C)) j) = k
    · refine RP_y (congrArg iN ho) ?_
      refine RP_gd (k70 hL) (LC_bd (L_dir hL (p_writAt (d := d + 1) hL.1 (iN j)) (qt_writAt hw hj') (hav1 hav0)) ?_)
      clear hL
      intro I τ hL
      rw [vl_some, b_244_89]
      refine RP_gd (k70 hL) (LC_bd (L_dir hL (p_isPaid (d := d + 1) hL.1 (iN (w_id (ug (s_U (g_S C)) j)))) (qt_wr hw hj') (hav1 hav0)) ?_)
      clear hL
      intro I τ hL
      rw [vl_some, b_244_90]
      by_cases hp : w_pd (ug (s_U (g_S C)) j) = 0
      · refine RP_y (congrArg iN hp) ?_
        rw [b_244_94, iN_add, show (iN 1 : Int32) = b01 ((w_of (ug (s_U (g_S C)) j) == k) && (w_pd (ug (s_U (g_S C)) j) == 0)) by rw [ho, hp]; simp [b01], b01_or]
        exact ih' _ _ _ (by omega) hL (by omega)
      · refine RP_n (fun z => hp (by rw [iN_eq (by omega) (by omega)] at z; exact z)) ?_
        rw [b_244_93, b_244_94, iN_add, show (iN 0 : Int32) = b01 ((w_of (ug (s_U (g_S C)) j) == k) && (w_pd (ug (s_U (g_S C)) j) == 0)) by simp [b01, hp], b01_or]
        exact ih' _ _ _ (by omega) hL (by omega)
    · refine RP_n (fun z => ho (by rw [iN_eq (by omega) (by omega)] at z; exact z)) ?_
      rw [b_244_93, b_244_94, iN_add, show (iN 0 : Int32) = b01 ((w_of (ug (s_U (g_S C)) j) == k) && (w_pd (ug (s_U (g_S C)) j) == 0)) by simp [b01, ho], b01_or]
      exact ih' _ _ _ (by omega) hL (by omega)
theorem we_2 (K : ∀ n I τ, LV E B n C I τ → n ≤ N9 → RP (RR (d + 42) 244 138 [some (.ref 70), some (.int x1), some (.int x2), some (.int (iN 0)), some (.int (iN 0)), some (.int (iN 0)), some (.int (iN 0)), some (.int (iN 0)), none, none] [] (I, τ)) P) :
    ∀ j k n u4 u5 u6 I τ, k + j = p_ns (s_P (g_S C)) → LV E B n C I τ → n + 52 * j + 1 ≤ N9 → RP (RR (d + 42) 244 65 [some (.ref 70), some (.int x1), some (.int x2), some (.int (iN k)), u4, u5, u6, none, none, none] [] (I, τ)) P := by
  intro j
  induction j with
  | zero =>
    intro k n u4 u5 u6 I τ hk hL hn
    have hw := LV_w hL
    have h8 := hw.2.1.2.1
    rw [b_244_65]
    refine RP_gd (k70 hL) (LC_bd (L_dir hL (p_statueCount (d := d + 1) hL.1) (rfl) hav0) ?_)
    clear hL
    intro I τ hL
    rw [vl_some, b_244_68]
    refine RP_n (by rw [iN_lt (by omega) (by omega)]; omega) ?_
    exact K _ _ _ hL (by omega)
  | succ j ih =>
    intro k n u4 u5 u6 I τ hk hL hn
    have hw := LV_w hL
    have h8 := hw.2.1.2.1
    have hu8 := hw.2.2.1.1
    have hk' : k < p_ns (s_P (g_S C)) := by omega
    obtain ⟨-, -, z3, z4⟩ := hw.2.1.2.2.2.1 k hk'
    have z8 := hw.2.1.1
    rw [b_244_65]
    refine RP_gd (k70 hL) (LC_bd (L_dir hL (p_statueCount (d := d + 1) hL.1) (rfl) hav0) ?_)
    clear hL
    intro I τ hL
    rw [vl_some, b_244_68]
    refine RP_y (by rw [iN_lt (by omega) (by omega)]; exact hk') ?_
    refine we_2b (N9 := n + 45) (u6 := u6) hk' (fun n9 I τ hL hn9 => ?_) (un (s_U (g_S C))) 0 _ _ _ (Nat.zero_add _) hL (by omega)
    rw [b_244_101]
    refine RP_y rfl ?_
    refine RP_gd (k70 hL) (LC_bd (L_dir hL (p_place (d := d + 1) hL.1 (iN k)) (qt_sta hw hk') (hav1 hav0)) ?_)
    clear hL
    intro I τ hL
    rw [vl_some, b_244_107]
    refine LC_bd (L_ask hL (p_statueOn (d := d) hL.1 (iN (p_pl (s_P (g_S C)) k))) (w_224 (iN (p_pl (s_P (g_S C)) k)) (qi_on) (k70' hL)) (hav1 hav0)) ?_
    clear hL
    intro I τ hL
    rw [vl_some, b_244_108, qt_on hw z3, on_pl hw.2.1 hk']
    refine RP_y rfl ?_
    refine RP_gd (k70 hL) (LC_bd (L_dir hL (p_isHome (d := d + 1) hL.1 (iN k)) (qt_sta hw hk') (hav1 hav0)) ?_)
    clear hL
    intro I τ hL
    rw [vl_some, b_244_113]
    refine RP_gd (k70 hL) (LC_bd (L_dir hL (p_place (d := d + 1) hL.1 (iN k)) (qt_sta hw hk') (hav1 hav0)) ?_)
    clear hL
    intro I τ hL
    rw [vl_some, b_244_116]
    refine RP_gd (k70 hL) (LC_bd (L_dir hL (p_home (d := d + 1) hL.1 (iN k)) (qt_sta hw hk') (hav1 hav0)) ?_)
    clear hL
    intro I τ hL
    rw [vl_some, b_244_119]
    by_cases hh : p_pl (s_P (g_S C)) k = p_ho (s_P (g_S C)) k
    · refine RP_y (congrArg iN hh) ?_
      rw [b_244_123]
      refine RP_y (by unfold hmB; rw [hh, beq_self_eq_true]; rfl) ?_
      rw [iN_add]
      exact ih (k + 1) _ _ _ _ _ _ (by omega) hL (by omega)
    · refine RP_n (fun z => hh (by rw [iN_eq (by omega) (by omega)] at z; exact z)) ?_
      rw [b_244_123]
      refine RP_y (by unfold hmB; rw [beq_eq_false_iff_ne.mpr hh]; rfl) ?_
      rw [iN_add]
      exact ih (k + 1) _ _ _ _ _ _ (by omega) hL (by omega)
end WB
