/-! THE MODEL: a night passes -/
section MG
variable {d : Nat} {I : qq_I} {τ : qq_R} {m B : Nat} {S : sS}
theorem R_F_mov {P : sP} {U : sU} {M : sM} {N : sN} {s t : Nat} (h : R_F (I (m + 1)) (P, U, M, N)) (w1 : p_np P ≤ 8) (w2 : p_ns P ≤ 6) (w3 : un U ≤ 8) (hs : s < p_ns P) : R_F (up_2 I (m + 1) (19 + 3 * s + 0) (iN t) (m + 1)) (sp_mov P s t, U, M, N) := by
  obtain ⟨a0, a1, a2, a3, a4, a5, a6, a7, a8, a9, a10, a11, a12, a13, a14⟩ := h
  refine ⟨by rw [up_k (by omega)]; exact a0, by rw [up_k (by omega)]; exact a1, by rw [up_k (by omega)]; exact a2, by rw [up_k (by omega)]; exact a3, by rw [up_k (by omega)]; exact a4, by rw [up_k (by omega)]; exact a5, by rw [up_k (by omega)]; exact a6, by rw [up_k (by omega)]; exact a7, by rw [up_k (by omega)]; exact a8, by rw [up_k (by omega)]; exact a9, by rw [up_k (by omega)]; exact a10, fun i hi => ?_, fun i hi => ?_, fun i hi => ?_, fun w hw => by rw [up_k (by omega)]; exact a14 w hw⟩
  · have hi : i < p_np P := hi
    rw [up_k (by omega)]; exact a11 i hi
  · have hi : i < p_ns P := hi
    obtain ⟨b1, b2, b3⟩ := a12 i hi
    refine ⟨?_, by rw [up_k (by omega)]; exact b2, by rw [up_k (by omega)]; exact b3⟩
    show _ = iN (fu (p_pl P) s t i)
    by_cases y : i = s
    · rw [y, fu_at]; exact up_at
    · rw [up_k (by omega), fu_ne y]; exact b1
  · have hi : i < un U := hi
    rw [up_k (by omega), up_k (by omega), up_k (by omega), up_k (by omega), up_k (by omega), up_k (by omega)]; exact a13 i hi
theorem c_nightPasses (hL : L_N τ m) (hR : R_F (I (m + 1)) S) (hw : wS B S) (hB : B + 1 ≤ 900000) : ∃ I', CC (d + 3) 253 [.ref m] (I, τ) = some (.inl (some (.int (iN (npM S)))), (I', τ)) ∧ R_F (I' (m + 1)) (npS S) ∧ wS (B + 1) (npS S) ∧ (∀ c, c ≠ m + 1 → I' c = I c) := by
  have hL0 := hL
  obtain ⟨m70, k0, r0, -, -, -, -, -, -, -, -, g1, -⟩ := hL
  have hn1 := wS_nt1 hw hB
  have h0 := hR.1
  have hR1 : R_F (up_2 I (m + 1) 0 (iN (s_ni S + 1)) (m + 1)) (nt1 S) := by
    have w1 := hw.2.1.1
    have w2 := hw.2.1.2.1
    have w3 := hw.2.2.1.1
    obtain ⟨a0, a1, a2, a3, a4, a5, a6, a7, a8, a9, a10, a11, a12, a13, a14⟩ := hR
    refine ⟨up_at, by rw [up_k (by omega)]; exact a1, by rw [up_k (by omega)]; exact a2, by rw [up_k (by omega)]; exact a3, by rw [up_k (by omega)]; exact a4, by rw [up_k (by omega)]; exact a5, by rw [up_k (by omega)]; exact a6, by rw [up_k (by omega)]; exact a7, by rw [up_k (by omega)]; exact a8, by rw [up_k (by omega)]; exact a9, by rw [up_k (by omega)]; exact a10, fun i hi => by rw [up_k (by omega)]; exact a11 i hi, fun i hi => ?_, fun i hi => ?_, fun w hw => by rw [up_k (by omega)]; exact a14 w hw⟩
    · rw [up_k (by omega), up_k (by omega), up_k (by omega)]; exact a12 i hi
    · rw [up_k (by omega), up_k (by omega), up_k (by omega), up_k (by omega), up_k (by omega), up_k (by omega)]; exact a13 i hi
  obtain ⟨J0, l1, l2, l3, l4⟩ := c_lapses (d := d) hL0 hR1 hn1
  have l2 : R_F (J0 (m + 1)) (npL S) := l2
  have l3 : wS (B + 1) (npL S) := l3
  have lp : ∀ q r (J : qq_I) (u3 u4 : Option Value), r + q = p_ns (s_P S) → R_F (J (m + 1)) ((mvP (s_U (npL S)) r (s_P S)).1, s_U (npL S), s_M (npL S), s_N (npL S)) → (∀ c, c ≠ m + 1 → J c = I c) →
      ∃ I', RR (d + 3) 253 14 [some (.ref m), some (.int (iN (mvP (s_U (npL S)) r (s_P S)).2)), some (.int (iN r)), u3, u4] [] (J, τ) = some (.inl (some (.int (iN (npM S)))), (I', τ)) ∧ R_F (I' (m + 1)) (npS S) ∧ (∀ c, c ≠ m + 1 → I' c = I c) := by
    intro q
    induction q with
    | zero =>
      intro r J u3 u4 hr hJ hI
      have hr : r = p_ns (s_P S) := hr
      have w2 := hw.2.1.2.1
      obtain ⟨h1, h2, h3, h4, h5, h6, h7, h8⟩ := mvP_ok (U := s_U (npL S)) hw.2.1 r (by omega)
      have h9 : J (m + 1) 9 = iN r := by
        have := hJ.2.2.2.2.2.2.2.2.2.1
        rw [this]
        show iN (p_ns (mvP (s_U (npL S)) r (s_P S)).1) = iN r
        rw [h3, hr]
      refine ⟨J, ?_, by rw [hr] at hJ; exact hJ, hI⟩
      rw [b_253_14]
      simp (disch := omega) only [rd_I_mk, rd_R_mk, rd_L_mk, rd_D_mk, kd_mk, wr_I_mk, cp_mk, gd_true, bd_ret, bd_thr, vl_none, vl_some, iN_add, iN_mul, iN_sub, iN_lt, iN_eq, iN_n, iN_m1, iN_pred, vp_iN, K0_le, nr_b0, nr_b1, m1_lt, lt_m1, iN_ne_m1, m1_ne_iN, not_lt_z, true_and, and_true, and_self, or_true, true_or, or_false, false_or, if_true, if_false, ↓reduceIte, eq_self, up_at, up_a, up_k, cp_c, cp_b, Nat.zero_add, Nat.add_zero, Nat.sub_zero, Nat.le_refl, Nat.add_sub_cancel, fu_at, fu_ne, iN_nz, n10_f, n01_f, ofN, qq_at_100, k110b, Nat.lt_irrefl, Nat.not_lt_zero, ne_eq, not_false_eq_true, not_true_eq_false, k0, r0, g1, h9]
      rw [hr]; rfl
    | succ q ih =>
      intro r J u3 u4 hr hJ hI
      have w2 := hw.2.1.2.1
      have w1 := hw.2.1.1
      obtain ⟨h1, h2, h3, h4, h5, h6, h7, h8⟩ := mvP_ok (U := s_U (npL S)) hw.2.1 r (by omega)
      have hwT : wS (B + 1) ((mvP (s_U (npL S)) r (s_P S)).1, s_U (npL S), s_M (npL S), s_N (npL S)) := mvP_wS l3 (by show r ≤ p_ns (s_P S); omega)
      have w3 := l3.2.2.1.1
      have hrn : r < p_ns (s_P S) := by omega
      have hs := wP_hfl h1 (i := r) (by omega)
      have h9 : J (m + 1) 9 = iN (p_ns (s_P S)) := by
        have := hJ.2.2.2.2.2.2.2.2.2.1
        rw [this]
        show iN (p_ns (mvP (s_U (npL S)) r (s_P S)).1) = iN (p_ns (s_P S))
        rw [h3]
      have hq : mvP (s_U (npL S)) (r + 1) (s_P S) = if bU (s_U (npL S)) ((p_hf (mvP (s_U (npL S)) r (s_P S)).1).getD r 0) = true then mvP (s_U (npL S)) r (s_P S) else if onP (mvP (s_U (npL S)) r (s_P S)).1 (p_ar (mvP (s_U (npL S)) r (s_P S)).1 (p_pl (mvP (s_U (npL S)) r (s_P S)).1 ((p_hf (mvP (s_U (npL S)) r (s_P S)).1).getD r 0))) = none then (sp_mov (mvP (s_U (npL S)) r (s_P S)).1 ((p_hf (mvP (s_U (npL S)) r (s_P S)).1).getD r 0) (p_ar (mvP (s_U (npL S)) r (s_P S)).1 (p_pl (mvP (s_U (npL S)) r (s_P S)).1 ((p_hf (mvP (s_U (npL S)) r (s_P S)).1).getD r 0))), (mvP (s_U (npL S)) r (s_P S)).2 + 1) else mvP (s_U (npL S)) r (s_P S) := by rw [mvP]
      have q1 := c_ranked (d := d) hL0 hJ hwT (iN r)
      have hrk : rkO (s_P ((mvP (s_U (npL S)) r (s_P S)).1, s_U (npL S), s_M (npL S), s_N (npL S))) (iN r) = some ((p_hf (mvP (s_U (npL S)) r (s_P S)).1).getD r 0) := by
        show rkO (mvP (s_U (npL S)) r (s_P S)).1 (iN r) = _
        unfold rkO
        rw [(inN_iff (by omega)).mpr ⟨r, by omega, rfl⟩, if_pos rfl, tn_iN (by omega)]
      rw [hrk] at q1
      have q1 : CC (d + 2) 252 [.ref m, .int (iN r)] (J, τ) = some (.inl (some (.int (iN ((p_hf (mvP (s_U (npL S)) r (s_P S)).1).getD r 0)))), (J, τ)) := q1
      generalize hst : (p_hf (mvP (s_U (npL S)) r (s_P S)).1).getD r 0 = s at *
      generalize hQ : mvP (s_U (npL S)) r (s_P S) = Q at *
      obtain ⟨P', n⟩ := Q
      dsimp only at h1 h3 h4 hq hJ hwT hs ih ⊢
      have hpl := h1.2.2.2.1 s hs
      have har := h1.2.2.1 _ hpl.2.2.1
      have a12 := hJ.2.2.2.2.2.2.2.2.2.2.2.2.1 s hs
      have a11 := hJ.2.2.2.2.2.2.2.2.2.2.2.1 (p_pl P' s) hpl.2.2.1
      have q2 := c_ofStatue (d := d + 2) (I := J) k0 r0 g1 (k := s) (w := 0) (by omega) (by omega)
      have a12' : J (m + 1) (19 + 3 * s + 0) = iN (p_pl P' s) := a12.1
      have a11' : J (m + 1) (11 + p_pl P' s) = iN (p_ar P' (p_pl P' s)) := a11
      rw [a12'] at q2
      have q3 := c_isHeld (d := d + 1) hL0 hJ hwT (x := s) (by omega)
      have q3 : CC (d + 2) 249 [.ref m, .int (iN s)] (J, τ) = some (.inl (some (.int (b01 (bU (s_U (npL S)) s)))), (J, τ)) := q3
      have q4 := c_on (d := d + 1) hL0 hJ hwT (x := p_ar P' (p_pl P' s)) (by omega)
      have q4 : CC (d + 2) 221 [.ref m, .int (iN (p_ar P' (p_pl P' s)))] (J, τ) = some (.inl (some (.int (oN (onP P' (p_ar P' (p_pl P' s)))))), (J, τ)) := q4
      have q5 := c_setsStatue (d := d + 2) (I := J) k0 m70 r0 g1 (k := s) (w := 0) (by omega) (by omega) (v := iN (p_ar P' (p_pl P' s)))
      have hon := oN_neg (o := onP P' (p_ar P' (p_pl P' s))) (fun k hk => by have := (ff_some _ _ _ hk).2.1; omega)
      cases hb : bU (s_U (npL S)) s with
      | true =>
        rw [hb, b01_t] at q3
        rw [hb, if_pos rfl] at hq
        obtain ⟨I', t1, t2⟩ := ih (r + 1) J (some (.int (iN s))) (some (.int (iN (p_ar P' (p_pl P' s))))) (by omega) (by rw [hq]; exact hJ) hI
        rw [hq] at t1
        refine ⟨I', ?_, t2⟩
        rw [b_253_14]
        simp (disch := omega) only [rd_I_mk, rd_R_mk, rd_L_mk, rd_D_mk, kd_mk, wr_I_mk, cp_mk, gd_true, bd_ret, bd_thr, vl_none, vl_some, iN_add, iN_mul, iN_sub, iN_lt, iN_eq, iN_n, iN_m1, iN_pred, vp_iN, K0_le, nr_b0, nr_b1, m1_lt, lt_m1, iN_ne_m1, m1_ne_iN, not_lt_z, true_and, and_true, and_self, or_true, true_or, or_false, false_or, if_true, if_false, ↓reduceIte, eq_self, up_at, up_a, up_k, cp_c, cp_b, Nat.zero_add, Nat.add_zero, Nat.sub_zero, Nat.le_refl, Nat.add_sub_cancel, fu_at, fu_ne, iN_nz, n10_f, n01_f, ofN, qq_at_100, k110b, Nat.lt_irrefl, Nat.not_lt_zero, ne_eq, not_false_eq_true, not_true_eq_false, k0, r0, g1, h9, hrn, q1, b_253_23, q2, b_253_31, a11', q3, b_253_37, b_253_48]
        exact t1
      | false =>
        rw [hb, b01_f] at q3
        rw [hb, if_neg (show ¬ (false = true) by decide)] at hq
        by_cases ho : onP P' (p_ar P' (p_pl P' s)) = none
        · rw [eq_true ho] at hon
          rw [if_pos ho] at hq
          obtain ⟨I', t1, t2⟩ := ih (r + 1) (up_2 J (m + 1) (19 + 3 * s + 0) (iN (p_ar P' (p_pl P' s)))) (some (.int (iN s))) (some (.int (iN (p_ar P' (p_pl P' s))))) (by omega) (by rw [hq]; exact R_F_mov hJ h1.1 h1.2.1 w3 hs) (fun c hc => by rw [up_c hc]; exact hI c hc)
          rw [hq] at t1
          refine ⟨I', ?_, t2⟩
          rw [b_253_14]
          simp (disch := omega) only [rd_I_mk, rd_R_mk, rd_L_mk, rd_D_mk, kd_mk, wr_I_mk, cp_mk, gd_true, bd_ret, bd_thr, vl_none, vl_some, iN_add, iN_mul, iN_sub, iN_lt, iN_eq, iN_n, iN_m1, iN_pred, vp_iN, K0_le, nr_b0, nr_b1, m1_lt, lt_m1, iN_ne_m1, m1_ne_iN, not_lt_z, true_and, and_true, and_self, or_true, true_or, or_false, false_or, if_true, if_false, ↓reduceIte, eq_self, up_at, up_a, up_k, cp_c, cp_b, Nat.zero_add, Nat.add_zero, Nat.sub_zero, Nat.le_refl, Nat.add_sub_cancel, fu_at, fu_ne, iN_nz, n10_f, n01_f, ofN, qq_at_100, k110b, Nat.lt_irrefl, Nat.not_lt_zero, ne_eq, not_false_eq_true, not_true_eq_false, k0, r0, g1, h9, hrn, q1, b_253_23, q2, b_253_31, a11', q3, b_253_37, q4, b_253_41, hon, q5, b_253_47, b_253_48]
          exact t1
        · rw [eq_false ho] at hon
          rw [if_neg ho] at hq
          obtain ⟨I', t1, t2⟩ := ih (r + 1) J (some (.int (iN s))) (some (.int (iN (p_ar P' (p_pl P' s))))) (by omega) (by rw [hq]; exact hJ) hI
          rw [hq] at t1
          refine ⟨I', ?_, t2⟩
          rw [b_253_14]
          simp (disch := omega) only [rd_I_mk, rd_R_mk, rd_L_mk, rd_D_mk, kd_mk, wr_I_mk, cp_mk, gd_true, bd_ret, bd_thr, vl_none, vl_some, iN_add, iN_mul, iN_sub, iN_lt, iN_eq, iN_n, iN_m1, iN_pred, vp_iN, K0_le, nr_b0, nr_b1, m1_lt, lt_m1, iN_ne_m1, m1_ne_iN, not_lt_z, true_and, and_true, and_self, or_true, true_or, or_false, false_or, if_true, if_false, ↓reduceIte, eq_self, up_at, up_a, up_k, cp_c, cp_b, Nat.zero_add, Nat.add_zero, Nat.sub_zero, Nat.le_refl, Nat.add_sub_cancel, fu_at, fu_ne, iN_nz, n10_f, n01_f, ofN, qq_at_100, k110b, Nat.lt_irrefl, Nat.not_lt_zero, ne_eq, not_false_eq_true, not_true_eq_false, k0, r0, g1, h9, hrn, q1, b_253_23, q2, b_253_31, a11', q3, b_253_37, q4, b_253_41, hon, b_253_48]
          exact t1
  obtain ⟨I', t1, t2⟩ := lp (p_ns (s_P S)) 0 J0 none none (Nat.zero_add _) l2 (fun c hc => by rw [l4 c hc, up_c hc])
  refine ⟨I', ?_, t2.1, mvP_wS l3 (Nat.le_refl _), t2.2⟩
  rw [c_253, b_253_0]
  simp (disch := omega) only [rd_I_mk, rd_R_mk, rd_L_mk, rd_D_mk, kd_mk, wr_I_mk, cp_mk, gd_true, bd_ret, bd_thr, vl_none, vl_some, iN_add, iN_mul, iN_sub, iN_lt, iN_eq, iN_n, iN_m1, iN_pred, vp_iN, K0_le, nr_b0, nr_b1, m1_lt, lt_m1, iN_ne_m1, m1_ne_iN, not_lt_z, true_and, and_true, and_self, or_true, true_or, or_false, false_or, if_true, if_false, ↓reduceIte, eq_self, up_at, up_a, up_k, cp_c, cp_b, Nat.zero_add, Nat.add_zero, Nat.sub_zero, Nat.le_refl, Nat.add_sub_cancel, fu_at, fu_ne, iN_nz, n10_f, n01_f, ofN, qq_at_100, k110b, Nat.lt_irrefl, Nat.not_lt_zero, ne_eq, not_false_eq_true, not_true_eq_false, k0, r0, g1, h0, b_253_8, l1, b_253_10]
  exact t1
theorem m_nig (hL : L_N τ m) (hR : R_F (I (m + 1)) S) (hw : wS B S) (hB : B + 660 ≤ 900000) (n : Int32) : ∃ I', CC (d + 4) 254 [.ref m, .int n] (I, τ) = some (.inl (some (.int (mV (ft_nig n) (o_nig S n).1))), (I', τ)) ∧ MC m I I' [97] (ft_nig n) S (o_nig S n).2 := by
  have hL0 := hL
  obtain ⟨m70, k0, r0, -, -, -, -, -, -, -, -, g1, -⟩ := hL
  have q1 := c_isIn (d := d + 3) (I := I) (τ := τ) (x := n) (lo := iN 1) (hi := iN 50)
  rw [inB_eq] at q1
  unfold mV ft_nig
  cases hx : inB 1 50 n with
  | false =>
    rw [hx, b01_f] at q1
    simp only [Bool.false_eq_true, if_false]
    refine ⟨up_2 I m 7 (iN 1), ?_, MC_thr (R_F_7 hR) MP_7 (by omega) up_at rfl⟩
    rw [c_254, b_254_0]
    simp (disch := omega) only [rd_I_mk, rd_R_mk, rd_L_mk, rd_D_mk, kd_mk, wr_I_mk, cp_mk, gd_true, bd_ret, bd_thr, vl_none, vl_some, iN_add, iN_mul, iN_sub, iN_lt, iN_eq, iN_n, iN_m1, iN_pred, vp_iN, K0_le, nr_b0, nr_b1, m1_lt, lt_m1, iN_ne_m1, m1_ne_iN, not_lt_z, true_and, and_true, and_self, or_true, true_or, or_false, false_or, if_true, if_false, ↓reduceIte, eq_self, up_at, up_a, up_k, cp_c, cp_b, Nat.zero_add, Nat.add_zero, Nat.sub_zero, Nat.le_refl, Nat.add_sub_cancel, fu_at, fu_ne, iN_nz, n10_f, n01_f, ofN, qq_at_100, k110b, Nat.lt_irrefl, Nat.not_lt_zero, ne_eq, not_false_eq_true, not_true_eq_false, k0, q1, b_254_5, b_254_9, thT k0 m70, b_254_11]
    rfl
  | true =>
    rw [hx, b01_t] at q1
    obtain ⟨j, hj1, hj, rfl⟩ := (inB_iff (by omega) (by omega)).mp hx
    simp only [if_true]
    unfold o_nig
    rw [tn_iN (by omega)]
    have hR7 : R_F (up_2 I m 7 (iN 0) (m + 1)) S := R_F_7 hR
    have lp : ∀ q r (J : qq_I), r + q = j → wS (B + r) (npN r S).1 → R_F (J (m + 1)) (npN r S).1 → (∀ c, c ≠ m + 1 → J c = up_2 I m 7 (iN 0) c) →
        ∃ I', RR (d + 4) 254 18 [some (.ref m), some (.int (iN j)), some (.int (iN (npN r S).2)), some (.int (iN r))] [] (J, τ) = some (.inl (some (.int (iN (npN j S).2))), (I', τ)) ∧ R_F (I' (m + 1)) (npN j S).1 ∧ (∀ c, c ≠ m + 1 → I' c = up_2 I m 7 (iN 0) c) := by
      intro q
      induction q with
      | zero =>
        intro r J hr hwr hJ hI
        have hr : r = j := hr
        subst hr
        refine ⟨J, ?_, hJ, hI⟩
        rw [b_254_18]
        simp (disch := omega) only [rd_I_mk, rd_R_mk, rd_L_mk, rd_D_mk, kd_mk, wr_I_mk, cp_mk, gd_true, bd_ret, bd_thr, vl_none, vl_some, iN_add, iN_mul, iN_sub, iN_lt, iN_eq, iN_n, iN_m1, iN_pred, vp_iN, K0_le, nr_b0, nr_b1, m1_lt, lt_m1, iN_ne_m1, m1_ne_iN, not_lt_z, true_and, and_true, and_self, or_true, true_or, or_false, false_or, if_true, if_false, ↓reduceIte, eq_self, up_at, up_a, up_k, cp_c, cp_b, Nat.zero_add, Nat.add_zero, Nat.sub_zero, Nat.le_refl, Nat.add_sub_cancel, fu_at, fu_ne, iN_nz, n10_f, n01_f, ofN, qq_at_100, k110b, Nat.lt_irrefl, Nat.not_lt_zero, ne_eq, not_false_eq_true, not_true_eq_false]
      | succ q ih =>
        intro r J hr hwr hJ hI
        have e : r < j := by omega
        obtain ⟨K, t1, t2, t3, t4⟩ := c_nightPasses (d := d) hL0 hJ hwr (by omega)
        obtain ⟨I', v1, v2⟩ := ih (r + 1) K (by omega) t3 t2 (fun c hc => by rw [t4 c hc]; exact hI c hc)
        refine ⟨I', ?_, v2⟩
        rw [b_254_18]
        simp (disch := omega) only [rd_I_mk, rd_R_mk, rd_L_mk, rd_D_mk, kd_mk, wr_I_mk, cp_mk, gd_true, bd_ret, bd_thr, vl_none, vl_some, iN_add, iN_mul, iN_sub, iN_lt, iN_eq, iN_n, iN_m1, iN_pred, vp_iN, K0_le, nr_b0, nr_b1, m1_lt, lt_m1, iN_ne_m1, m1_ne_iN, not_lt_z, true_and, and_true, and_self, or_true, true_or, or_false, false_or, if_true, if_false, ↓reduceIte, eq_self, up_at, up_a, up_k, cp_c, cp_b, Nat.zero_add, Nat.add_zero, Nat.sub_zero, Nat.le_refl, Nat.add_sub_cancel, fu_at, fu_ne, iN_nz, n10_f, n01_f, ofN, qq_at_100, k110b, Nat.lt_irrefl, Nat.not_lt_zero, ne_eq, not_false_eq_true, not_true_eq_false, e, k0, t1, b_254_24]
        exact v1
    obtain ⟨I', v1, v2, v3⟩ := lp j 0 (up_2 I m 7 (iN 0)) (Nat.zero_add _) hw hR7 (fun _ _ => rfl)
    refine ⟨I', ?_, by rw [if_pos rfl]; exact v2, by rw [v3 m (by omega), up_at]; rfl, MP_tr MP_7 (MP_1 v3)⟩
    rw [c_254, b_254_0]
    simp (disch := omega) only [rd_I_mk, rd_R_mk, rd_L_mk, rd_D_mk, kd_mk, wr_I_mk, cp_mk, gd_true, bd_ret, bd_thr, vl_none, vl_some, iN_add, iN_mul, iN_sub, iN_lt, iN_eq, iN_n, iN_m1, iN_pred, vp_iN, K0_le, nr_b0, nr_b1, m1_lt, lt_m1, iN_ne_m1, m1_ne_iN, not_lt_z, true_and, and_true, and_self, or_true, true_or, or_false, false_or, if_true, if_false, ↓reduceIte, eq_self, up_at, up_a, up_k, cp_c, cp_b, Nat.zero_add, Nat.add_zero, Nat.sub_zero, Nat.le_refl, Nat.add_sub_cancel, fu_at, fu_ne, iN_nz, n10_f, n01_f, ofN, qq_at_100, k110b, Nat.lt_irrefl, Nat.not_lt_zero, ne_eq, not_false_eq_true, not_true_eq_false, k0, q1, b_254_5, b_254_9, thF k0 m70, b_254_11]
    exact v1
end MG
