/-! seen: a row of all that shows -/
theorem vt_no {E : List (Nat × (Nat → Int32))} {B n a : Nat} {C : sC} {I : qq_I} {τ : qq_R} (h : LV E B n C I τ) (ha : a < 308) (hk : tK τ a = (2, 0)) : tR τ a 0 ∉ eA E :=
  (h.2.2.2.1.2.2 a (by have := LV_z h; show a < tZ τ; omega) (fun hm => by have := (h.2.2.2.1.1 a hm).1; omega) 0 (Or.inl (by
    rw [show (kd_S (I, τ) a).1 = 2 from congrArg Prod.fst hk]
    exact ⟨by omega, by decide, rfl⟩))).2
/-- what is changed: none of the class's cells -/
theorem R_C_ex {E : List (Nat × (Nat → Int32))} {A : Nat → Prop} {B n : Nat} {C : sC} {I I' : qq_I} {τ τ' : qq_R} (h : LV E B n C I τ) (hG : Gf A I τ I' τ') (hA : ∀ a, a < tZ τ → A a → 308 ≤ a ∧ a ≠ tR τ 291 0 ∧ a ≠ tR τ 306 0) : R_C I' τ' 70 308 B C := by
  obtain ⟨g1, g2, g3, g4, g5, x1, x2, x3, x4, x5, x6, x7, x8, x9, x10, x11, x12, x13, x14, x15, x16, x17⟩ := h.1
  obtain ⟨v1, v2⟩ := R_B_v x14
  obtain ⟨v3, v4⟩ := R_B_v x11
  have hz := LV_z h
  obtain ⟨q1, q2⟩ := R_B_gf x11 hG (fun z => by have := hA 291 (by omega) z; omega) (fun z => (hA _ v4 z).2.1 rfl)
  obtain ⟨q3, q4⟩ := R_B_gf x14 hG (fun z => by have := hA 306 (by omega) z; omega) (fun z => (hA _ v2 z).2.2 rfl)
  have e1 : tR τ' 291 0 = tR τ 291 0 := q2
  have e2 : tR τ' 306 0 = tR τ 306 0 := q4
  exact R_C_sb h.1 hG (fun a ha z => by have := hA a ha z; omega) q1 x12 x13 q3 x15 x16 (by show tR τ' 291 0 ≠ tR τ' 306 0; rw [e1, e2]; exact x17)
section WS
variable {d B n q j : Nat} {v : Int32} {C : sC} {I : qq_I} {τ : qq_R} {E : List (Nat × (Nat → Int32))} {f g : Nat → Int32} {P : qq_O → qq_I → qq_R → Prop}
theorem LV_f (h : LV ((q, f) :: E) B n C I τ) (e : f = g) : LV ((q, g) :: E) B n C I τ := e ▸ h
theorem LV_new (h : LV E B n C I τ) : LV ((tZ τ, fun _ => iN 0) :: E) B (n + 1) C (nwI τ I) (nT τ (100, 130) 130) := by
  obtain ⟨h1, h2, h3, h4, h5, h6, h7⟩ := h
  have hz : 308 ≤ tZ τ := h4.2.1
  have hE : ∀ a ∈ eA E, a < tZ τ := fun a ha => (h4.1 a ha).2
  refine ⟨R_C_nw h1, KC_same h2 (fun a ha => ⟨nI_o (by omega), nT_Ko (by omega), fun k => nT_Ro (by omega)⟩), by rw [nT_Ko (by omega)]; exact h3, ⟨fun a ha => ?_, ?_, fun a ha hn k hl => ?_⟩, fun p hp => ?_, ⟨by rw [nT_Z]; omega, ?_⟩, h7⟩
  · rcases List.mem_cons.mp ha with r | r
    · have r : a = tZ τ := r
      subst r
      exact ⟨hz, Nat.lt_succ_self _⟩
    · exact ⟨(h4.1 a r).1, Nat.lt_succ_of_lt (hE a r)⟩
  · show 308 ≤ tZ τ + 1
    omega
  · have ha : a < tZ τ + 1 := ha
    have hne : a ≠ tZ τ := fun e => hn (e ▸ List.mem_cons_self)
    have hn2 : a ∉ eA E := fun hm => hn (List.mem_cons_of_mem _ hm)
    have hk : kd_S (nwI τ I, nT τ (100, 130) 130) a = kd_S (I, τ) a := nT_Ko hne
    have hr : rd_R (nwI τ I, nT τ (100, 130) 130) a k = rd_R (I, τ) a k := nT_Ro hne
    unfold lgR at hl
    rw [hk] at hl
    obtain ⟨q1, q2⟩ := h4.2.2 a (by show a < tZ τ; omega) hn2 k hl
    rw [hr]
    have q1 : rd_R (I, τ) a k < tZ τ := q1
    refine ⟨Nat.lt_succ_of_lt q1, fun hm => ?_⟩
    rcases List.mem_cons.mp hm with r | r
    · have r : rd_R (I, τ) a k = tZ τ := r
      omega
    · exact q2 r
  · rcases List.mem_cons.mp hp with rfl | hp
    · exact ⟨nT_K, fun j _ => nI_at⟩
    · have hlt := hE p.1 (List.mem_map.mpr ⟨p, hp, rfl⟩)
      rw [nT_Ko (by omega)]
      refine ⟨(h5 p hp).1, fun j hj => ?_⟩
      rw [nI_o (by omega)]
      exact (h5 p hp).2 j hj
  · rw [nT_U]
    exact u_next (by omega) h6.2
theorem LV_gw (h : LV ((q, f) :: E) B n C I τ) (hj : j < 130) : (kd_S (I, τ) q).1 = 100 ∧ vp_in (iN j) (kd_S (I, τ) q).2 ∧ qq_K0 ≤ q := by
  have hk : tK τ q = (100, 130) := (h.2.2.2.2.1 _ List.mem_cons_self).1
  have h1 := (h.2.2.2.1.1 q List.mem_cons_self).1
  rw [show kd_S (I, τ) q = (100, 130) from hk]
  exact ⟨rfl, of_eq_true (vp_iN hj (by omega)), Nat.le_trans (by decide) h1⟩
theorem LV_wr (h : LV ((q, f) :: E) B n C I τ) (hq : ∀ p ∈ E, p.1 ≠ q) (hj : j < 130) : LV ((q, fu f j v) :: E) B n C (up_2 I q j v) τ := by
  have h0 := h
  have h1 := h.1
  have k1 : tK τ 291 = (2, 0) := h1.2.2.2.2.2.2.2.2.2.2.2.2.2.2.2.1.2.2.2.1
  have k2 : tK τ 306 = (2, 0) := h1.2.2.2.2.2.2.2.2.2.2.2.2.2.2.2.2.2.2.1.2.2.2.1
  have n1 : q ≠ tR τ 291 0 := fun e => vt_no h0 (by omega) k1 (e ▸ List.mem_cons_self)
  have n2 : q ≠ tR τ 306 0 := fun e => vt_no h0 (by omega) k2 (e ▸ List.mem_cons_self)
  have hq3 := (h.2.2.2.1.1 q List.mem_cons_self).1
  have hG : Gf (fun a => a = q) I τ (up_2 I q j v) τ := Gf_up rfl
  obtain ⟨-, h2, h3, h4, h5, h6, h7⟩ := h
  refine ⟨R_C_ex h0 hG (fun a _ z => by rw [z]; exact ⟨hq3, n1, n2⟩), KC_same h2 (fun a ha => ⟨up_c (by omega), rfl, fun _ => rfl⟩), h3, h4, fun p hp => ?_, h6, h7⟩
  rcases List.mem_cons.mp hp with rfl | hp
  · refine ⟨(h5 _ List.mem_cons_self).1, fun i hi => ?_⟩
    show up_2 I q j v q i = fu f j v i
    by_cases e : i = j
    · rw [e, up_at, fu_at]
    · rw [up_k e, fu_ne e]
      exact (h5 _ List.mem_cons_self).2 i hi
  · rw [up_c (hq p hp)]
    exact h5 p (List.mem_cons_of_mem _ hp)
theorem RP_wr {D m i : Nat} {ls : List (Option Value)} {st : List Value} (h : LV ((q, f) :: E) B n C I τ) (hq : ∀ p ∈ E, p.1 ≠ q) (hj : j < 130) (K : ∀ I, LV ((q, fu f j v) :: E) B n C I τ → RP (RR D m i ls st (I, τ)) P) : RP (gd ((kd_S (I, τ) q).1 = 100 ∧ vp_in (iN j) (kd_S (I, τ) q).2 ∧ qq_K0 ≤ q) (RR D m i ls st (wr_I (I, τ) q (iN j).toNatClampNeg v))) P := by
  refine RP_gd (LV_gw h hj) ?_
  rw [wr_I_mk, iN_n (by omega)]
  exact K _ (LV_wr h hq hj)
def sf1 (S : sS) : Nat → Int32 := fu (fu (fu (fu (fu (fu (fu (fu (fu (fun _ => iN 0) 0 (iN (s_ni S))) 1 (m_tr (s_M S))) 2 (s_up S)) 3 (s_di S)) 4 (s_la S)) 5 (iN (p_np (s_P S)))) 6 (iN (p_ns (s_P S)))) 7 (iN (un (s_U S)))) 8 (iN (gr (s_U S) (fnt S) (un (s_U S))).sum)
def sf2 (S : sS) : Nat → Nat → Int32
  | 0 => sf1 S
  | k + 1 => fu (sf2 S k) (10 + k) (iN (p_ar (s_P S) k))
def sf3 (S : sS) : Nat → Nat → Int32
  | 0 => sf2 S (p_np (s_P S))
  | k + 1 => fu (fu (fu (fu (sf3 S k) (20 + 4 * k) (iN (p_pl (s_P S) k))) (21 + 4 * k) (iN (p_ho (s_P S) k))) (22 + 4 * k) (iN (p_we (s_P S) k))) (23 + 4 * k) (b01 (bU (s_U S) k))
def sf4 (S : sS) : Nat → Nat → Int32
  | 0 => sf3 S (p_ns (s_P S))
  | k + 1 => fu (fu (fu (fu (fu (fu (sf4 S k) (46 + 6 * k) (iN (w_id (ug (s_U S) k)))) (47 + 6 * k) (iN (w_of (ug (s_U S) k)))) (48 + 6 * k) (iN (w_la (ug (s_U S) k)))) (49 + 6 * k) (iN (w_ba (ug (s_U S) k)))) (50 + 6 * k) (iN (w_pd (ug (s_U S) k)))) (51 + 6 * k) (wv [3] (q_cause S (iN (w_id (ug (s_U S) k)))))
def sf5 (S : sS) : Nat → Nat → Int32
  | 0 => sf4 S (un (s_U S))
  | w + 1 => fu (sf5 S w) (100 + (w + 1)) (iN (m_bl (s_M S) (w + 1)))
def seenF (S : sS) : Nat → Int32 := sf5 S 20
theorem se_5 {N9 : Nat} (hq : ∀ p ∈ E, p.1 ≠ q) : ∀ j w n u3 I τ, w + j = 20 → LV ((q, sf5 (g_S C) w) :: E) B n C I τ → n + j ≤ N9 → RP (RR (d + 42) 242 192 [some (.ref 70), some (.ref q), some (.int (iN (w + 1))), u3] [] (I, τ)) (fun o I τ => o = .inl (some (.ref q)) ∧ LV ((q, seenF (g_S C)) :: E) B N9 C I τ) := by
  intro j
  induction j with
  | zero =>
    intro w n u3 I τ hk hL hn
    have e : w = 20 := by omega
    subst e
    rw [b_242_192]
    exact RP_y (by decide) (RP_ret ⟨rfl, LV_up hL (by omega)⟩)
  | succ j ih =>
    intro w n u3 I τ hk hL hn
    rw [b_242_192]
    refine RP_n (by rw [iN_lt (by omega) (by omega)]; omega) ?_
    refine RP_gd (k70 hL) (LC_bd (L_dir hL (p_blocks (d := d + 1) hL.1 (iN (w + 1))) (qt_blocks (by omega) (by omega)) (hav1 hav0)) ?_)
    clear hL
    intro I τ hL
    rw [vl_some, b_242_202, iN_add]
    refine RP_wr hL hq (j := 100 + (w + 1)) (by omega) (fun I hL => ?_)
    rw [b_242_203, iN_add]
    exact ih (w + 1) _ _ _ _ (by omega) hL (by omega)
theorem se_4 {N9 : Nat} (hq : ∀ p ∈ E, p.1 ≠ q) (K : ∀ n u3 I τ, LV ((q, sf5 (g_S C) 0) :: E) B n C I τ → n ≤ N9 → RP (RR (d + 42) 242 192 [some (.ref 70), some (.ref q), some (.int (iN 1)), u3] [] (I, τ)) P) :
    ∀ j k n u3 I τ, k + j = un (s_U (g_S C)) → LV ((q, sf4 (g_S C) k) :: E) B n C I τ → n + 7 * j + 1 ≤ N9 → RP (RR (d + 42) 242 118 [some (.ref 70), some (.ref q), some (.int (iN k)), u3] [] (I, τ)) P := by
  intro j
  induction j with
  | zero =>
    intro k n u3 I τ hk hL hn
    have hw := LV_w hL
    have h8 := hw.2.2.1.1
    have e : k = un (s_U (g_S C)) := by omega
    subst e
    rw [b_242_118]
    refine RP_gd (k70 hL) (LC_bd (L_dir hL (p_writCount (d := d + 1) hL.1) (rfl) hav0) ?_)
    clear hL
    intro I τ hL
    rw [vl_some, b_242_121]
    refine RP_n (by rw [iN_lt (by omega) (by omega)]; omega) ?_
    exact K _ _ _ _ hL (by omega)
  | succ j ih =>
    intro k n u3 I τ hk hL hn
    have hw := LV_w hL
    have h8 := hw.2.2.1.1
    have hk' : k < un (s_U (g_S C)) := by omega
    have w7 := (hw.2.2.1.2.2.2 k hk').2.2.2.2.1
    rw [b_242_118]
    refine RP_gd (k70 hL) (LC_bd (L_dir hL (p_writCount (d := d + 1) hL.1) (rfl) hav0) ?_)
    clear hL
    intro I τ hL
    rw [vl_some, b_242_121]
    refine RP_y (by rw [iN_lt (by omega) (by omega)]; exact hk') ?_
    refine RP_gd (k70 hL) (LC_bd (L_dir hL (p_writAt (d := d + 1) hL.1 (iN k)) (qt_writAt hw hk') (hav1 hav0)) ?_)
    clear hL
    intro I τ hL
    rw [vl_some, b_242_125, iN_mul, iN_add]
    refine RP_wr hL hq (j := 46 + 6 * k) (by omega) (fun I hL => ?_)
    rw [b_242_134, iN_mul, iN_add]
    refine RP_gd (k70 hL) (LC_bd (L_dir hL (p_statueOf (d := d + 1) hL.1 (iN (w_id (ug (s_U (g_S C)) k)))) (qt_wr hw hk') (hav1 hav0)) ?_)
    clear hL
    intro I τ hL
    rw [vl_some, b_242_143]
    refine RP_wr hL hq (j := 47 + 6 * k) (by omega) (fun I hL => ?_)
    rw [b_242_144, iN_mul, iN_add]
    refine RP_gd (k70 hL) (LC_bd (L_dir hL (p_lastNight (d := d + 1) hL.1 (iN (w_id (ug (s_U (g_S C)) k)))) (qt_wr hw hk') (hav1 hav0)) ?_)
    clear hL
    intro I τ hL
    rw [vl_some, b_242_153]
    refine RP_wr hL hq (j := 48 + 6 * k) (by omega) (fun I hL => ?_)
    rw [b_242_154, iN_mul, iN_add]
    refine RP_gd (k70 hL) (LC_bd (L_dir hL (p_bail (d := d + 1) hL.1 (iN (w_id (ug (s_U (g_S C)) k)))) (qt_wr hw hk') (hav1 hav0)) ?_)
    clear hL
    intro I τ hL
    rw [vl_some, b_242_163]
    refine RP_wr hL hq (j := 49 + 6 * k) (by omega) (fun I hL => ?_)
    rw [b_242_164, iN_mul, iN_add]
    refine RP_gd (k70 hL) (LC_bd (L_dir hL (p_isPaid (d := d + 1) hL.1 (iN (w_id (ug (s_U (g_S C)) k)))) (qt_wr hw hk') (hav1 hav0)) ?_)
    clear hL
    intro I τ hL
    rw [vl_some, b_242_173]
    have L177 : RP (RR (d + 42) 242 177 [some (.ref 70), some (.ref q), some (.int (iN k)), some (.int (iN (w_id (ug (s_U (g_S C)) k))))] [.int (iN (w_pd (ug (s_U (g_S C)) k))), .int (iN (50 + 6 * k)), .ref q] (I, τ)) P := by
      rw [b_242_177]
      refine RP_wr hL hq (j := 50 + 6 * k) (by omega) (fun I hL => ?_)
      rw [b_242_178, iN_mul, iN_add]
      refine LC_bd (L_ask hL (p_causeOf (d := d) hL.1 (iN (w_id (ug (s_U (g_S C)) k)))) (w_228 (iN (w_id (ug (s_U (g_S C)) k))) (qi_cause) (k70' hL)) (hav1 hav0)) ?_
      clear hL
      intro I τ hL
      rw [vl_some, b_242_187]
      refine RP_wr hL hq (j := 51 + 6 * k) (by omega) (fun I hL => ?_)
      rw [b_242_188, iN_add]
      exact ih (k + 1) _ _ _ _ (by omega) hL (by omega)
    by_cases hp : w_pd (ug (s_U (g_S C)) k) = 0
    · rw [hp] at L177
      exact RP_y (congrArg iN hp) L177
    · rw [show w_pd (ug (s_U (g_S C)) k) = 1 by omega] at L177
      exact RP_n (fun z => hp (by rw [iN_eq (by omega) (by omega)] at z; exact z)) L177
theorem se_3 {N9 : Nat} (hq : ∀ p ∈ E, p.1 ≠ q) (K : ∀ n I τ, LV ((q, sf4 (g_S C) 0) :: E) B n C I τ → n ≤ N9 → RP (RR (d + 42) 242 118 [some (.ref 70), some (.ref q), some (.int (iN 0)), none] [] (I, τ)) P) :
    ∀ j k n I τ, k + j = p_ns (s_P (g_S C)) → LV ((q, sf3 (g_S C) k) :: E) B n C I τ → n + 5 * j + 1 ≤ N9 → RP (RR (d + 42) 242 66 [some (.ref 70), some (.ref q), some (.int (iN k)), none] [] (I, τ)) P := by
  intro j
  induction j with
  | zero =>
    intro k n I τ hk hL hn
    have hw := LV_w hL
    have h8 := hw.2.1.2.1
    have e : k = p_ns (s_P (g_S C)) := by omega
    subst e
    rw [b_242_66]
    refine RP_gd (k70 hL) (LC_bd (L_dir hL (p_statueCount (d := d + 1) hL.1) (rfl) hav0) ?_)
    clear hL
    intro I τ hL
    rw [vl_some, b_242_69]
    refine RP_n (by rw [iN_lt (by omega) (by omega)]; omega) ?_
    exact K _ _ _ hL (by omega)
  | succ j ih =>
    intro k n I τ hk hL hn
    have hw := LV_w hL
    have h8 := hw.2.1.2.1
    have hk' : k < p_ns (s_P (g_S C)) := by omega
    rw [b_242_66]
    refine RP_gd (k70 hL) (LC_bd (L_dir hL (p_statueCount (d := d + 1) hL.1) (rfl) hav0) ?_)
    clear hL
    intro I τ hL
    rw [vl_some, b_242_69]
    refine RP_y (by rw [iN_lt (by omega) (by omega)]; exact hk') ?_
    rw [iN_mul, iN_add]
    refine RP_gd (k70 hL) (LC_bd (L_dir hL (p_place (d := d + 1) hL.1 (iN k)) (qt_sta hw hk') (hav1 hav0)) ?_)
    clear hL
    intro I τ hL
    rw [vl_some, b_242_79]
    refine RP_wr hL hq (j := 20 + 4 * k) (by omega) (fun I hL => ?_)
    rw [b_242_80, iN_mul, iN_add]
    refine RP_gd (k70 hL) (LC_bd (L_dir hL (p_home (d := d + 1) hL.1 (iN k)) (qt_sta hw hk') (hav1 hav0)) ?_)
    clear hL
    intro I τ hL
    rw [vl_some, b_242_89]
    refine RP_wr hL hq (j := 21 + 4 * k) (by omega) (fun I hL => ?_)
    rw [b_242_90, iN_mul, iN_add]
    refine RP_gd (k70 hL) (LC_bd (L_dir hL (p_weight (d := d + 1) hL.1 (iN k)) (qt_sta hw hk') (hav1 hav0)) ?_)
    clear hL
    intro I τ hL
    rw [vl_some, b_242_99]
    refine RP_wr hL hq (j := 22 + 4 * k) (by omega) (fun I hL => ?_)
    rw [b_242_100, iN_mul, iN_add]
    refine RP_gd (k70 hL) (LC_bd (L_dir hL (p_isBound (d := d + 1) hL.1 (iN k)) (qt_sta hw hk') (hav1 hav0)) ?_)
    clear hL
    intro I τ hL
    rw [vl_some, b_242_109]
    have L113 : RP (RR (d + 42) 242 113 [some (.ref 70), some (.ref q), some (.int (iN k)), none] [.int (b01 (bU (s_U (g_S C)) k)), .int (iN (23 + 4 * k)), .ref q] (I, τ)) P := by
      rw [b_242_113]
      refine RP_wr hL hq (j := 23 + 4 * k) (by omega) (fun I hL => ?_)
      rw [b_242_114, iN_add]
      exact ih (k + 1) _ _ _ (by omega) hL (by omega)
    cases hb : bU (s_U (g_S C)) k with
    | true =>
      rw [hb] at L113
      exact RP_n (by decide) L113
    | false =>
      rw [hb] at L113
      exact RP_y rfl L113
theorem se_2 {N9 : Nat} (hq : ∀ p ∈ E, p.1 ≠ q) (K : ∀ n I τ, LV ((q, sf3 (g_S C) 0) :: E) B n C I τ → n ≤ N9 → RP (RR (d + 42) 242 66 [some (.ref 70), some (.ref q), some (.int (iN 0)), none] [] (I, τ)) P) :
    ∀ j k n I τ, k + j = p_np (s_P (g_S C)) → LV ((q, sf2 (g_S C) k) :: E) B n C I τ → n + 2 * j + 1 ≤ N9 → RP (RR (d + 42) 242 50 [some (.ref 70), some (.ref q), some (.int (iN k)), none] [] (I, τ)) P := by
  intro j
  induction j with
  | zero =>
    intro k n I τ hk hL hn
    have hw := LV_w hL
    have h8 := hw.2.1.1
    have e : k = p_np (s_P (g_S C)) := by omega
    subst e
    rw [b_242_50]
    refine RP_gd (k70 hL) (LC_bd (L_dir hL (p_pedestalCount (d := d + 1) hL.1) (rfl) hav0) ?_)
    clear hL
    intro I τ hL
    rw [vl_some, b_242_53]
    refine RP_n (by rw [iN_lt (by omega) (by omega)]; omega) ?_
    exact K _ _ _ hL (by omega)
  | succ j ih =>
    intro k n I τ hk hL hn
    have hw := LV_w hL
    have h8 := hw.2.1.1
    have hk' : k < p_np (s_P (g_S C)) := by omega
    rw [b_242_50]
    refine RP_gd (k70 hL) (LC_bd (L_dir hL (p_pedestalCount (d := d + 1) hL.1) (rfl) hav0) ?_)
    clear hL
    intro I τ hL
    rw [vl_some, b_242_53]
    refine RP_y (by rw [iN_lt (by omega) (by omega)]; exact hk') ?_
    rw [iN_add]
    refine RP_gd (k70 hL) (LC_bd (L_dir hL (p_arrow (d := d + 1) hL.1 (iN k)) (qt_arrow hw hk') (hav1 hav0)) ?_)
    clear hL
    intro I τ hL
    rw [vl_some, b_242_61]
    refine RP_wr hL hq (j := 10 + k) (by omega) (fun I hL => ?_)
    rw [b_242_62, iN_add]
    exact ih (k + 1) _ _ _ (by omega) hL (by omega)
/-- seen answers with a new row of all that shows -/
theorem L_seen (h : LV E B n C I τ) : LC (d + 42) 242 [.ref 70] I τ (some (.ref (tZ τ))) (LV ((tZ τ, seenF (g_S C)) :: E) B (n + 150) C) := by
  have hw := LV_w h
  have h1 := hw.2.1.1
  have h2 := hw.2.1.2.1
  have h3 := hw.2.2.1.1
  have hq : ∀ p ∈ E, p.1 ≠ tZ τ := fun p hp e => by
    have := (h.2.2.2.1.1 p.1 (List.mem_map.mpr ⟨p, hp, rfl⟩)).2
    have : p.1 < tZ τ := this
    omega
  have hL := LV_new h
  have e130 : (iN 130).toNatClampNeg = 130 := iN_n (by omega)
  refine LC_of ?_
  rw [c_242, b_242_0, e130]
  refine RP_gd ⟨of_eq_false (iN_nz (by omega)), by omega⟩ ?_
  rw [nw_mk, sz_mk]
  clear h
  generalize tZ τ = q at *
  generalize nwI τ I = I at *
  generalize nT τ (100, 130) 130 = τ at *
  rw [b_242_2]
  refine RP_gd (k70 hL) (LC_bd (L_dir hL (p_night (d := d + 1) hL.1) (rfl) hav0) ?_)
  clear hL
  intro I τ hL
  rw [vl_some, b_242_7]
  refine RP_wr hL hq (j := 0) (by omega) (fun I hL => ?_)
  rw [b_242_8]
  refine RP_gd (k70 hL) (LC_bd (L_dir hL (p_treasury (d := d + 1) hL.1) (rfl) hav0) ?_)
  clear hL
  intro I τ hL
  rw [vl_some, b_242_12]
  refine RP_wr hL hq (j := 1) (by omega) (fun I hL => ?_)
  rw [b_242_13]
  refine RP_gd (k70 hL) (LC_bd (L_dir hL (p_upheld (d := d + 1) hL.1) (rfl) hav0) ?_)
  clear hL
  intro I τ hL
  rw [vl_some, b_242_17]
  refine RP_wr hL hq (j := 2) (by omega) (fun I hL => ?_)
  rw [b_242_18]
  refine RP_gd (k70 hL) (LC_bd (L_dir hL (p_dismissed (d := d + 1) hL.1) (rfl) hav0) ?_)
  clear hL
  intro I τ hL
  rw [vl_some, b_242_22]
  refine RP_wr hL hq (j := 3) (by omega) (fun I hL => ?_)
  rw [b_242_23]
  refine RP_gd (k70 hL) (LC_bd (L_dir hL (p_lapsed (d := d + 1) hL.1) (rfl) hav0) ?_)
  clear hL
  intro I τ hL
  rw [vl_some, b_242_27]
  refine RP_wr hL hq (j := 4) (by omega) (fun I hL => ?_)
  rw [b_242_28]
  refine RP_gd (k70 hL) (LC_bd (L_dir hL (p_pedestalCount (d := d + 1) hL.1) (rfl) hav0) ?_)
  clear hL
  intro I τ hL
  rw [vl_some, b_242_32]
  refine RP_wr hL hq (j := 5) (by omega) (fun I hL => ?_)
  rw [b_242_33]
  refine RP_gd (k70 hL) (LC_bd (L_dir hL (p_statueCount (d := d + 1) hL.1) (rfl) hav0) ?_)
  clear hL
  intro I τ hL
  rw [vl_some, b_242_37]
  refine RP_wr hL hq (j := 6) (by omega) (fun I hL => ?_)
  rw [b_242_38]
  refine RP_gd (k70 hL) (LC_bd (L_dir hL (p_writCount (d := d + 1) hL.1) (rfl) hav0) ?_)
  clear hL
  intro I τ hL
  rw [vl_some, b_242_42]
  refine RP_wr hL hq (j := 7) (by omega) (fun I hL => ?_)
  rw [b_242_43]
  refine RP_gd (k70 hL) (LC_bd (L_dir hL (p_docketValue (d := d + 1) hL.1) (rfl) hav0) ?_)
  clear hL
  intro I τ hL
  rw [vl_some, b_242_47]
  refine RP_wr hL hq (j := 8) (by omega) (fun I hL => ?_)
  rw [b_242_48]
  have hL : LV ((q, sf2 (g_S C) 0) :: E) B _ C I τ := hL
  refine se_2 (N9 := n + 27) hq (fun n2 I τ hL hn2 => ?_) (p_np (s_P (g_S C))) 0 _ I τ (Nat.zero_add _) hL (by omega)
  refine se_3 (N9 := n + 58) hq (fun n3 I τ hL hn3 => ?_) (p_ns (s_P (g_S C))) 0 n2 I τ (Nat.zero_add _) hL (by omega)
  refine se_4 (N9 := n + 115) hq (fun n4 u3 I τ hL hn4 => ?_) (un (s_U (g_S C))) 0 n3 _ I τ (Nat.zero_add _) hL (by omega)
  exact se_5 (N9 := n + 150) hq 20 0 n4 u3 I τ rfl hL (by omega)
end WS
