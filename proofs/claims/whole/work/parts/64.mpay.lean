/-! THE MODEL: paying bail -/
section MY
variable {d : Nat} {I : qq_I} {τ : qq_R} {m B : Nat} {S : sS}
theorem MP_6 {I' : qq_I} (h : ∀ a, a ≠ m + 6 → I' a = I a) : MP m I I' := ⟨fun a _ _ h6 => h a h6, fun k _ => by rw [h m (by omega)]⟩
theorem MP_1 {I' : qq_I} (h : ∀ a, a ≠ m + 1 → I' a = I a) : MP m I I' := ⟨fun a _ h6 _ => h a h6, fun k _ => by rw [h m (by omega)]⟩
theorem c_payLoop (hL : L_N τ m) {bl : Nat → Nat} (hb : ∀ w, w < 21 → bl w < 1000000) (x1 x2 x3 : Int32) (hT : ∀ w a, w < 21 → a ≤ 60 → I (m + 6) (61 * w + a) = iN (fM bl w a)) :
    ∀ w a (b : Nat → Nat) (J : qq_I) (u6 : Option Value), w ≤ 20 → a ≤ 60 → fw bl w a ≠ 1000 → (∀ v, v < 21 → J (m + 1) (85 + v) = iN (b v)) → (∀ v, v < 21 → b v < 1000000) → (∀ v, v ≤ w → b v = bl v) → (∀ j, j < 85 → J (m + 1) j = I (m + 1) j) → (∀ c, c ≠ m + 1 → J c = I c) →
      ∃ J' a' v6, RR (d + 2) 244 57 [some (.ref m), some (.int x1), some (.int x2), some (.int x3), some (.int (iN a)), some (.int (iN w)), u6] [] (J, τ) = RR (d + 2) 244 57 [some (.ref m), some (.int x1), some (.int x2), some (.int x3), some (.int (iN a')), some (.int (iN 0)), v6] [] (J', τ) ∧
        (∀ v, v < 21 → J' (m + 1) (85 + v) = iN (tka bl w a b v)) ∧ (∀ j, j < 85 → J' (m + 1) j = I (m + 1) j) ∧ (∀ c, c ≠ m + 1 → J' c = I c) := by
  have hL0 := hL
  obtain ⟨m70, k0, r0, -, -, -, -, r5, -, -, -, g1, -, -, -, -, g6, -⟩ := hL
  intro w
  induction w with
  | zero =>
    intro a b J u6 hw ha hne hS hB hbl h85 hJ
    exact ⟨J, a, u6, rfl, hS, h85, hJ⟩
  | succ w ih =>
    intro a b J u6 hw ha hne hS hB hbl h85 hJ
    have h1 := @tk_fw bl w a
    have h2 := @fw_le bl (w + 1) a
    have h3 := @tk_le bl w a
    have hbw := hbl (w + 1) (Nat.le_refl _)
    have hB1 := hB (w + 1) (by omega)
    have q := c_taken (d := d) (I := J) (bl := bl) (bl' := b) hL0 hS (w := w) (a := a) (by omega) ha hbw (hb _ (by omega)) (fun w a h h' => by rw [hJ _ (by omega)]; exact hT w a h h') hne
    have e85 := hS (w + 1) (by omega)
    obtain ⟨J', a', v6, t1, t2⟩ := ih (a - tk bl w a * (w + 1)) (fu b (w + 1) (b (w + 1) - tk bl w a)) (up_2 J (m + 1) (85 + (w + 1)) (iN (b (w + 1) - tk bl w a))) (some (.int (iN (tk bl w a)))) (by omega) (by omega) (by omega) (fun v hv => by
      by_cases y : v = w + 1
      · rw [y, up_at, fu_at]
      · rw [up_k (by omega), fu_ne y]; exact hS v hv) (fun v hv => by
      by_cases y : v = w + 1
      · rw [y, fu_at]; omega
      · rw [fu_ne y]; exact hB v hv) (fun v hv => by rw [fu_ne (by omega)]; exact hbl v (by omega)) (fun j hj => by rw [up_k (by omega)]; exact h85 j hj) (fun c hc => by rw [up_c hc]; exact hJ c hc)
    refine ⟨J', a', v6, ?_, t2⟩
    have e0 : (iN 0 < iN (w + 1)) = True := (iN_lt (by omega) (by omega)).trans (eq_true (Nat.succ_pos _))
    have ev : vp_in (iN (85 + (w + 1))) 106 = True := vp_iN (by omega) (by omega)
    have en : (iN (85 + (w + 1))).toNatClampNeg = 85 + (w + 1) := iN_n (by omega)
    generalize htk : tk bl w a * (w + 1) = kw at *
    have es2 : iN a - iN (tk bl w a) * iN (w + 1) = iN (a - kw) := by rw [iN_mul, htk]; exact iN_sub (by omega)
    have es1 : iN (b (w + 1)) - iN (tk bl w a) = iN (b (w + 1) - tk bl w a) := iN_sub (by omega)
    rw [b_244_57]
    simp only [e0, if_true, kd_mk, rd_R_mk, rd_I_mk, wr_I_mk, k0, r0, g1, gd_true, q, bd_ret, vl_some, b_244_63, iN_add, ev, en, e85, K0_le (show 70 ≤ m + 1 by omega), true_and, and_self, es1, b_244_74, es2, iN_m1]
    exact t1
theorem m_pay (hL : L_N τ m) (hR : R_F (I (m + 1)) S) (hw : wS B S) (x : Int32) : ∃ I', CC (d + 2) 244 [.ref m, .int x] (I, τ) = some (.inl (some (.int (mV (ft_pay S x) (o_pay S x).1))), (I', τ)) ∧ MC m I I' [101, 115, 117] (ft_pay S x) S (o_pay S x).2 := by
  have q1 := c_at (d := d) hL hR hw x
  have hL0 := hL
  have hm := wS_M hw
  obtain ⟨m70, k0, r0, -, -, -, -, r5, -, -, -, g1, -, -, -, -, g6, -⟩ := hL
  have w3 := hw.2.2.1.1
  unfold mV ft_pay o_pay
  cases hc : fiX (s_U S) x with
  | none =>
    rw [hc] at q1
    refine ⟨up_2 I m 7 (iN 1), ?_, MC_thr (R_F_7 hR) MP_7 (by show 101 ≠ 45; omega) up_at rfl⟩
    rw [c_244, b_244_0]
    simp (disch := omega) only [rd_I_mk, rd_R_mk, rd_L_mk, rd_D_mk, kd_mk, wr_I_mk, cp_mk, gd_true, bd_ret, bd_thr, vl_none, vl_some, iN_add, iN_mul, iN_sub, iN_lt, iN_eq, iN_n, iN_m1, iN_pred, vp_iN, K0_le, nr_b0, nr_b1, m1_lt, lt_m1, iN_ne_m1, m1_ne_iN, not_lt_z, true_and, and_true, and_self, or_true, true_or, or_false, false_or, if_true, if_false, ↓reduceIte, eq_self, up_at, up_a, up_k, cp_c, cp_b, Nat.zero_add, Nat.add_zero, Nat.sub_zero, Nat.le_refl, Nat.add_sub_cancel, fu_at, fu_ne, iN_nz, n10_f, n01_f, ofN, qq_at_100, k110b, Nat.lt_irrefl, Nat.not_lt_zero, ne_eq, not_false_eq_true, not_true_eq_false, k0, q1, oN, b_244_3, b_244_10, thT k0 m70, b_244_12, b_244_26]
    rfl
  | some k =>
    rw [hc] at q1
    have hk := fiX_lt hc
    obtain ⟨y1, y2, y3, y4, y5, y6, y7⟩ := hw.2.2.1.2.2.2 k hk
    have hR7 : R_F (up_2 I m 7 (iN 0) (m + 1)) S := R_F_7 hR
    have h13 := hR7.2.2.2.2.2.2.2.2.2.2.2.2.2.1 k hk
    have q2 := c_of (d := d + 1) (I := up_2 I m 7 (iN 0)) k0 r0 g1 (k := k) (w := 4) (by omega) (by omega)
    rw [h13.2.2.2.2.1] at q2
    dsimp only
    show ∃ I', CC (d + 2) 244 [.ref m, .int x] (I, τ) = some (.inl (some (.int (if (if w_pd (ug (s_U S) k) = 0 then (if fw (m_bl (s_M S)) 20 (w_ba (ug (s_U S) k)) = 1000 then 117 else 45) else 115) = 45 then iN (fw (m_bl (s_M S)) 20 (w_ba (ug (s_U S) k))) else iN 0))), (I', τ)) ∧ MC m I I' [101, 115, 117] (if w_pd (ug (s_U S) k) = 0 then (if fw (m_bl (s_M S)) 20 (w_ba (ug (s_U S) k)) = 1000 then 117 else 45) else 115) S (paS S k)
    by_cases hp : w_pd (ug (s_U S) k) = 0
    · rw [if_pos hp]
      rw [hp] at q2
      obtain ⟨J, q3, q4, q5⟩ := c_reckons (d := d) (I := up_2 I m 7 (iN 0)) (bl := m_bl (s_M S)) hL0 hR7.2.2.2.2.2.2.2.2.2.2.2.2.2.2 hm
      have j1 : J (m + 1) = I (m + 1) := by rw [q5 _ (by omega), up_c (by omega)]
      have hRJ : R_F (J (m + 1)) S := by rw [j1]; exact hR
      have h13J := hRJ.2.2.2.2.2.2.2.2.2.2.2.2.2.1 k hk
      have q6 := c_of (d := d + 1) (I := J) k0 r0 g1 (k := k) (w := 3) (by omega) (by omega)
      rw [h13J.2.2.2.1] at q6
      have q7 := c_fewestM (d := d + 1) (I := J) k0 r5 g6 (w := 20) (a := w_ba (ug (s_U S) k)) (by omega) y4
      rw [q4 20 _ (by omega) y4] at q7
      have hfM : fM (m_bl (s_M S)) 20 (w_ba (ug (s_U S) k)) ≤ 999 := Nat.min_le_left _ _
      have hfb := @fw_bd (m_bl (s_M S)) 20 (w_ba (ug (s_U S) k)) y4
      by_cases hf : fw (m_bl (s_M S)) 20 (w_ba (ug (s_U S) k)) = 1000
      · rw [if_pos hf]
        have e9 : fM (m_bl (s_M S)) 20 (w_ba (ug (s_U S) k)) = 999 := by unfold fM; rw [hf]; rfl
        rw [e9] at q7
        have hRt : R_F (up_2 J m 7 (iN 3) (m + 1)) S := R_F_7 hRJ
        refine ⟨up_2 J m 7 (iN 3), ?_, MC_thr hRt (MP_tr (MP_tr MP_7 (MP_6 q5)) MP_7) (by omega) up_at rfl⟩
        rw [c_244, b_244_0]
        simp (disch := omega) only [rd_I_mk, rd_R_mk, rd_L_mk, rd_D_mk, kd_mk, wr_I_mk, cp_mk, gd_true, bd_ret, bd_thr, vl_none, vl_some, iN_add, iN_mul, iN_sub, iN_lt, iN_eq, iN_n, iN_m1, iN_pred, vp_iN, K0_le, nr_b0, nr_b1, m1_lt, lt_m1, iN_ne_m1, m1_ne_iN, not_lt_z, true_and, and_true, and_self, or_true, true_or, or_false, false_or, if_true, if_false, ↓reduceIte, eq_self, up_at, up_a, up_k, cp_c, cp_b, Nat.zero_add, Nat.add_zero, Nat.sub_zero, Nat.le_refl, Nat.add_sub_cancel, fu_at, fu_ne, iN_nz, n10_f, n01_f, ofN, qq_at_100, k110b, Nat.lt_irrefl, Nat.not_lt_zero, ne_eq, not_false_eq_true, not_true_eq_false, k0, q1, oN, b_244_3, b_244_10, thF k0 m70, b_244_12, q2, b_244_18, b_244_23, up_up, b_244_25, q3, b_244_30, q6, b_244_36, q7, b_244_37, b_244_45, thT k0 m70, b_244_47]
        rfl
      · rw [if_neg hf, if_pos rfl]
        have hf60 := hfb.resolve_left hf
        have e9 : fM (m_bl (s_M S)) 20 (w_ba (ug (s_U S) k)) = fw (m_bl (s_M S)) 20 (w_ba (ug (s_U S) k)) := by unfold fM; omega
        rw [e9] at q7
        have hlt : fw (m_bl (s_M S)) 20 (w_ba (ug (s_U S) k)) < 999 := by omega
        have hR2 : R_F (up_2 J m 7 (iN 0) (m + 1)) S := R_F_7 hRJ
        have q6' := c_of (d := d + 1) (I := up_2 J m 7 (iN 0)) k0 r0 g1 (k := k) (w := 3) (by omega) (by omega)
        rw [(hR2.2.2.2.2.2.2.2.2.2.2.2.2.2.1 k hk).2.2.2.1] at q6'
        obtain ⟨K, a', v6, t1, t2, t3, t4⟩ := c_payLoop (d := d) (I := up_2 J m 7 (iN 0)) hL0 (bl := m_bl (s_M S)) hm x (iN k) (iN (fw (m_bl (s_M S)) 20 (w_ba (ug (s_U S) k)))) (fun w a h h' => by rw [up_c (by omega)]; exact q4 w a h h') 20 (w_ba (ug (s_U S) k)) (m_bl (s_M S)) (up_2 J m 7 (iN 0)) none (by omega) y4 hf hR2.2.2.2.2.2.2.2.2.2.2.2.2.2.2 hm (fun _ _ => rfl) (fun _ _ => rfl) (fun _ _ => rfl)
        have kI : ∀ j, j < 85 → K (m + 1) j = I (m + 1) j := fun j hj => by rw [t3 j hj, up_c (by omega), j1]
        have kb : K (m + 1) (37 + 6 * k + 3) = iN (w_ba (ug (s_U S) k)) := by rw [kI _ (by omega), ← j1]; exact h13J.2.2.2.1
        have q8 := c_of (d := d + 1) (I := K) k0 r0 g1 (k := k) (w := 3) (by omega) (by omega)
        rw [kb] at q8
        have k2 : K (m + 1) 2 = m_tr (s_M S) := by rw [kI 2 (by omega)]; exact hR.2.2.1
        have q9 := c_sets (d := d + 1) (I := up_2 K (m + 1) 2 (m_tr (s_M S) + iN (w_ba (ug (s_U S) k)))) k0 m70 r0 g1 (k := k) (w := 4) (by omega) (by omega) (v := iN 1)
        refine ⟨up_2 (up_2 K (m + 1) 2 (m_tr (s_M S) + iN (w_ba (ug (s_U S) k)))) (m + 1) (37 + 6 * k + 4) (iN 1), ?_, ?_, ?_, MP_tr (MP_tr (MP_tr (MP_tr MP_7 (MP_6 q5)) MP_7) (MP_1 t4)) (MP_tr MP_s MP_s)⟩
        · rw [c_244, b_244_0]
          simp (disch := omega) only [kd_mk, rd_R_mk, rd_I_mk, wr_I_mk, k0, gd_true, q1, bd_ret, vl_some, vl_none, oN, b_244_3, not_lt_z, Nat.not_lt_zero, if_false, b_244_10, thF k0 m70, b_244_12, if_true, q2, b_244_18, iN_eq, n01_f, n10_f, Nat.zero_ne_one, b_244_23, up_up, b_244_25, q3, b_244_30, q6, b_244_36, q7, b_244_37, iN_lt, hlt, b_244_45, b_244_47, q6', b_244_54]
          rw [t1, b_244_57]
          simp (disch := omega) only [kd_mk, rd_R_mk, rd_I_mk, wr_I_mk, k0, r0, g1, gd_true, true_and, and_true, and_self, not_lt_z, if_false, vp_iN, iN_n, k2, q8, bd_ret, vl_some, vl_none, b_244_91, K0_le, b_244_93, q9, b_244_98]
        · rw [if_pos rfl]
          obtain ⟨h0, h1, h2, h3, h4, h5, h6, h7, h8, h9, h10, h11, h12, h13a, h14⟩ := hR
          have w1 := hw.2.1.1
          have w2 := hw.2.1.2.1
          have st : ∀ j, j < 85 → j ≠ 2 → j ≠ 37 + 6 * k + 4 → up_2 (up_2 K (m + 1) 2 (m_tr (s_M S) + iN (w_ba (ug (s_U S) k)))) (m + 1) (37 + 6 * k + 4) (iN 1) (m + 1) j = I (m + 1) j := fun j h1 h2 h3 => by rw [up_k h3, up_k h2]; exact kI j h1
          refine ⟨(st 0 (by omega) (by omega) (by omega)).trans h0, (st 1 (by omega) (by omega) (by omega)).trans h1, ?_, (st 3 (by omega) (by omega) (by omega)).trans h3, (st 4 (by omega) (by omega) (by omega)).trans h4, (st 5 (by omega) (by omega) (by omega)).trans h5, (st 6 (by omega) (by omega) (by omega)).trans h6, (st 7 (by omega) (by omega) (by omega)).trans h7, (st 8 (by omega) (by omega) (by omega)).trans h8, (st 9 (by omega) (by omega) (by omega)).trans h9, ?_, fun i hi => ?_, fun i hi => ?_, fun i hi => ?_, fun w hw => ?_⟩
          · rw [up_k (by omega), up_at]; rfl
          · rw [st 10 (by omega) (by omega) (by omega), h10]
            show _ = iN (un (su_pay (s_U S) k))
            rw [un_pay]
          · have hi : i < p_np (s_P S) := hi
            exact (st _ (by omega) (by omega) (by omega)).trans (h11 i hi)
          · have hi : i < p_ns (s_P S) := hi
            obtain ⟨b1, b2, b3⟩ := h12 i hi
            exact ⟨(st _ (by omega) (by omega) (by omega)).trans b1, (st _ (by omega) (by omega) (by omega)).trans b2, (st _ (by omega) (by omega) (by omega)).trans b3⟩
          · have hi : i < un (su_pay (s_U S) k) := hi
            rw [un_pay] at hi
            obtain ⟨b1, b2, b3, b4, b5, b6⟩ := h13a i hi
            obtain ⟨p1, p2, p3, p4, p5⟩ := @pay_same (s_U S) k i hk
            show _ = iN (w_id (ug (su_pay (s_U S) k) i)) ∧ _ = iN (w_of (ug (su_pay (s_U S) k) i)) ∧ _ = iN (w_la (ug (su_pay (s_U S) k) i)) ∧ _ = iN (w_ba (ug (su_pay (s_U S) k) i)) ∧ _ = iN (w_pd (ug (su_pay (s_U S) k) i)) ∧ _ = iN (w_ca (ug (su_pay (s_U S) k) i))
            rw [p1, p2, p3, p4, p5]
            refine ⟨(st _ (by omega) (by omega) (by omega)).trans b1, (st _ (by omega) (by omega) (by omega)).trans b2, (st _ (by omega) (by omega) (by omega)).trans b3, (st _ (by omega) (by omega) (by omega)).trans b4, ?_, (st _ (by omega) (by omega) (by omega)).trans b6⟩
            rw [ug_pay hk]
            by_cases y : i = k
            · rw [if_pos y, y, up_at]; rfl
            · rw [if_neg y]; exact (st _ (by omega) (by omega) (by omega)).trans b5
          · rw [up_k (by omega), up_k (by omega)]; exact t2 w hw
        · rw [up_c (by omega), up_c (by omega), t4 _ (by omega), up_at]; rfl
    · rw [if_neg hp]
      have hp1 : w_pd (ug (s_U S) k) = 1 := by omega
      rw [hp1] at q2
      refine ⟨up_2 I m 7 (iN 2), ?_, MC_thr (R_F_7 hR) MP_7 (by omega) up_at rfl⟩
      rw [c_244, b_244_0]
      simp (disch := omega) only [rd_I_mk, rd_R_mk, rd_L_mk, rd_D_mk, kd_mk, wr_I_mk, cp_mk, gd_true, bd_ret, bd_thr, vl_none, vl_some, iN_add, iN_mul, iN_sub, iN_lt, iN_eq, iN_n, iN_m1, iN_pred, vp_iN, K0_le, nr_b0, nr_b1, m1_lt, lt_m1, iN_ne_m1, m1_ne_iN, not_lt_z, true_and, and_true, and_self, or_true, true_or, or_false, false_or, if_true, if_false, ↓reduceIte, eq_self, up_at, up_a, up_k, cp_c, cp_b, Nat.zero_add, Nat.add_zero, Nat.sub_zero, Nat.le_refl, Nat.add_sub_cancel, fu_at, fu_ne, iN_nz, n10_f, n01_f, ofN, qq_at_100, k110b, Nat.lt_irrefl, Nat.not_lt_zero, ne_eq, not_false_eq_true, not_true_eq_false, k0, q1, oN, b_244_3, b_244_10, thF k0 m70, b_244_12, q2, b_244_18, b_244_23, thT k0 m70, up_up, b_244_25, b_244_26]
      rfl
end MY
