/-! THE MODEL: a hearing -/
section MHE
variable {d : Nat} {I : qq_I} {τ : qq_R} {m B : Nat} {S : sS}
theorem MP_v {m : Nat} {I I' : qq_I} {v : Int32} (h : ∀ c, c ≠ m + 1 → I' c = up_2 I m 7 v c) : MP m I I' :=
  ⟨fun a h1 h2 _ => by rw [h a h2, up_c h1], fun k hk => by rw [h m (by omega), up_k hk]⟩
theorem R_F_1 {J : qq_I} {T : sS} (h : R_F (J (m + 1)) T) (w1 : p_np (s_P T) ≤ 8) (w2 : p_ns (s_P T) ≤ 6) : R_F (up_2 J (m + 1) 1 (iN (s_ni T)) (m + 1)) (heT T) := by
  obtain ⟨a0, a1, a2, a3, a4, a5, a6, a7, a8, a9, a10, a11, a12, a13, a14⟩ := h
  refine ⟨by rw [up_k (by omega)]; exact a0, by rw [up_at]; exact (caC_s _).symm, by rw [up_k (by omega)]; exact a2, by rw [up_k (by omega)]; exact a3, by rw [up_k (by omega)]; exact a4, by rw [up_k (by omega)]; exact a5, by rw [up_k (by omega)]; exact a6, by rw [up_k (by omega)]; exact a7, by rw [up_k (by omega)]; exact a8, by rw [up_k (by omega)]; exact a9, by rw [up_k (by omega)]; exact a10, fun i hi => by rw [up_k (by omega)]; exact a11 i hi, fun i hi => ?_, fun i hi => ?_, fun w hw => by rw [up_k (by omega)]; exact a14 w hw⟩
  · rw [up_k (by omega), up_k (by omega), up_k (by omega)]; exact a12 i hi
  · rw [up_k (by omega), up_k (by omega), up_k (by omega), up_k (by omega), up_k (by omega), up_k (by omega)]; exact a13 i hi
theorem R_F_4 {J : qq_I} {T : sS} (h : R_F (J (m + 1)) T) (w1 : p_np (s_P T) ≤ 8) (w2 : p_ns (s_P T) ≤ 6) {v : Int32} : R_F (up_2 J (m + 1) 4 v (m + 1)) (s_P T, s_U T, s_M T, (s_ni T, s_he T, v, s_di T, s_la T)) := by
  obtain ⟨a0, a1, a2, a3, a4, a5, a6, a7, a8, a9, a10, a11, a12, a13, a14⟩ := h
  refine ⟨by rw [up_k (by omega)]; exact a0, by rw [up_k (by omega)]; exact a1, by rw [up_k (by omega)]; exact a2, by rw [up_k (by omega)]; exact a3, up_at, by rw [up_k (by omega)]; exact a5, by rw [up_k (by omega)]; exact a6, by rw [up_k (by omega)]; exact a7, by rw [up_k (by omega)]; exact a8, by rw [up_k (by omega)]; exact a9, by rw [up_k (by omega)]; exact a10, fun i hi => by rw [up_k (by omega)]; exact a11 i hi, fun i hi => ?_, fun i hi => ?_, fun w hw => by rw [up_k (by omega)]; exact a14 w hw⟩
  · rw [up_k (by omega), up_k (by omega), up_k (by omega)]; exact a12 i hi
  · rw [up_k (by omega), up_k (by omega), up_k (by omega), up_k (by omega), up_k (by omega), up_k (by omega)]; exact a13 i hi
def heQ (S : sS) (k : Nat) : sS := (heP S k, s_U S, s_M S, (s_ni S, s_ni S + 1, s_up S, s_di S, s_la S))
theorem wS_heQ (hw : wS B S) {k : Nat} (hk : k < un (s_U S)) : wS B (heQ S k) := by
  have w6 := hw.2.2.2.2.2.1 k hk
  obtain ⟨v1, v2, v3, v4, v5, v6, v7, v8, v9⟩ := hw
  have hho := (v2.2.2.2.1 _ w6.1).2.2.2
  have hP : wP (heP S k) ∧ p_ns (heP S k) = p_ns (s_P S) := by
    unfold heP
    split
    · rename_i z
      exact ⟨wP_mov v2 w6.1 hho z, rfl⟩
    · exact ⟨v2, rfl⟩
  exact ⟨v1, hP.1, v3, v4, v5, fun i hi => ⟨by show _ < p_ns (heP S k); rw [hP.2]; exact (v6 i hi).1, (v6 i hi).2⟩, v7, Nat.le_refl _, v9⟩
/-- the end of a writ that is upheld -/
theorem c_upheld2 (hL : L_N τ m) {J : qq_I} (hw : wS B S) {k : Nat} (hk : k < un (s_U S)) (hJ : R_F (J (m + 1)) (heQ S k)) (x1 x3 x4 : Int32) : ∃ I', RR (d + 5) 247 69 [some (.ref m), some (.int x1), some (.int (iN k)), some (.int x3), some (.int x4)] [] (J, τ) = some (.inl (some (.int (iN 117))), (I', τ)) ∧ R_F (I' (m + 1)) (heN S k) ∧ (∀ c, c ≠ m + 1 → I' c = J c) := by
  have hL0 := hL
  obtain ⟨m70, k0, r0, -, -, -, -, -, -, -, -, g1, -⟩ := hL
  have hq := wS_heQ hw hk
  obtain ⟨K, t1, t2, t3⟩ := c_closes (d := d + 3) hL0 hJ hq hk false
  have t1 : CC (d + 4) 236 [.ref m, .int (iN k), .int (iN 0)] (J, τ) = some (.inl none, (K, τ)) := t1
  have t2 : R_F (K (m + 1)) (heP S k, su_close (s_U S) k, s_M S, (s_ni S, s_ni S + 1, s_up S, s_di S, s_la S)) := t2
  have k4 : K (m + 1) 4 = s_up S := t2.2.2.2.2.1
  refine ⟨up_2 K (m + 1) 4 (s_up S + iN 1), ?_, R_F_4 t2 hq.2.1.1 hq.2.1.2.1, fun c hc => by rw [up_c hc, t3 c hc]⟩
  rw [b_247_69]
  simp (disch := omega) only [rd_I_mk, rd_R_mk, rd_L_mk, rd_D_mk, kd_mk, wr_I_mk, cp_mk, gd_true, bd_ret, bd_thr, vl_none, vl_some, iN_add, iN_mul, iN_sub, iN_lt, iN_eq, iN_n, iN_m1, iN_pred, vp_iN, K0_le, nr_b0, nr_b1, m1_lt, lt_m1, iN_ne_m1, m1_ne_iN, not_lt_z, true_and, and_true, and_self, or_true, true_or, or_false, false_or, if_true, if_false, ↓reduceIte, eq_self, up_at, up_a, up_k, cp_c, cp_b, Nat.zero_add, Nat.add_zero, Nat.sub_zero, Nat.le_refl, Nat.add_sub_cancel, fu_at, fu_ne, iN_nz, n10_f, n01_f, ofN, qq_at_100, k110b, Nat.lt_irrefl, Nat.not_lt_zero, ne_eq, not_false_eq_true, not_true_eq_false, k0, r0, g1, t1, b_247_73, k4, b_247_81]
theorem m_hea (hL : L_N τ m) (hR : R_F (I (m + 1)) S) (hw : wS B S) (x : Int32) : ∃ I', CC (d + 5) 247 [.ref m, .int x] (I, τ) = some (.inl (some (.int (mV (ft_hea S x) (o_hea S x).1))), (I', τ)) ∧ MC m I I' [101, 115] (ft_hea S x) S (o_hea S x).2 := by
  have q1 := c_at (d := d + 3) hL hR hw x
  have hL0 := hL
  obtain ⟨m70, k0, r0, -, -, -, -, r5, -, -, -, g1, -, -, -, -, g6, -⟩ := hL
  have w3 := hw.2.2.1.1
  have wb := hw.1
  have w5 := hw.2.2.2.2.1
  have w8 := hw.2.2.2.2.2.2.2.1
  unfold mV ft_hea o_hea
  cases hc : fiX (s_U S) x with
  | none =>
    rw [hc] at q1
    refine ⟨up_2 I m 7 (iN 1), ?_, MC_thr (R_F_7 hR) MP_7 (by show 101 ≠ 45; omega) up_at rfl⟩
    rw [c_247, b_247_0]
    simp (disch := omega) only [rd_I_mk, rd_R_mk, rd_L_mk, rd_D_mk, kd_mk, wr_I_mk, cp_mk, gd_true, bd_ret, bd_thr, vl_none, vl_some, iN_add, iN_mul, iN_sub, iN_lt, iN_eq, iN_n, iN_m1, iN_pred, vp_iN, K0_le, nr_b0, nr_b1, m1_lt, lt_m1, iN_ne_m1, m1_ne_iN, not_lt_z, true_and, and_true, and_self, or_true, true_or, or_false, false_or, if_true, if_false, ↓reduceIte, eq_self, up_at, up_a, up_k, cp_c, cp_b, Nat.zero_add, Nat.add_zero, Nat.sub_zero, Nat.le_refl, Nat.add_sub_cancel, fu_at, fu_ne, iN_nz, n10_f, n01_f, ofN, qq_at_100, k110b, Nat.lt_irrefl, Nat.not_lt_zero, ne_eq, not_false_eq_true, not_true_eq_false, k0, q1, oN, b_247_3, b_247_10, thT k0 m70, b_247_12, b_247_29]
    rfl
  | some k =>
    rw [hc] at q1
    have hk := fiX_lt hc
    have hx : x = iN (w_id (ug (s_U S) k)) := by
      have := (ff_some _ _ _ hc).2.2.1
      exact (beq_iff_eq.mp this).symm
    have hR7 : R_F (up_2 I m 7 (iN 0) (m + 1)) S := R_F_7 hR
    have h0 := hR7.1
    have h1 := hR7.2.1
    have he := caC_eq (h := s_he S) (n := s_ni S) (by omega) (by omega)
    show ∃ I', CC (d + 5) 247 [.ref m, .int x] (I, τ) = some (.inl (some (.int (if (if s_he S = s_ni S + 1 then 115 else 45) = 45 then iN (heC S k) else iN 0))), (I', τ)) ∧ MC m I I' [101, 115] (if s_he S = s_ni S + 1 then 115 else 45) S (heS S k)
    by_cases hp : s_he S = s_ni S + 1
    · rw [if_pos hp]
      rw [eq_true hp] at he
      refine ⟨up_2 I m 7 (iN 2), ?_, MC_thr (R_F_7 hR) MP_7 (by omega) up_at rfl⟩
      rw [c_247, b_247_0]
      simp (disch := omega) only [rd_I_mk, rd_R_mk, rd_L_mk, rd_D_mk, kd_mk, wr_I_mk, cp_mk, gd_true, bd_ret, bd_thr, vl_none, vl_some, iN_add, iN_mul, iN_sub, iN_lt, iN_eq, iN_n, iN_m1, iN_pred, vp_iN, K0_le, nr_b0, nr_b1, m1_lt, lt_m1, iN_ne_m1, m1_ne_iN, not_lt_z, true_and, and_true, and_self, or_true, true_or, or_false, false_or, if_true, if_false, ↓reduceIte, eq_self, up_at, up_a, up_k, cp_c, cp_b, Nat.zero_add, Nat.add_zero, Nat.sub_zero, Nat.le_refl, Nat.add_sub_cancel, fu_at, fu_ne, iN_nz, n10_f, n01_f, ofN, qq_at_100, k110b, Nat.lt_irrefl, Nat.not_lt_zero, ne_eq, not_false_eq_true, not_true_eq_false, k0, r0, g1, q1, oN, b_247_3, b_247_10, thF k0 m70, b_247_12, h0, h1, he, b_247_26, thT k0 m70, b_247_28, b_247_29, up_up]
      rfl
    · rw [if_neg hp]
      rw [eq_false hp] at he
      have w6 := hw.2.2.2.2.2.1 k hk
      have wst := hw.2.1.2.1
      obtain ⟨y1, y2, y3, y4⟩ := hw.2.1.2.2.2.1 _ w6.1
      have wnp := hw.2.1.1
      have hR1 := R_F_1 hR7 wnp wst
      have h13 := hR1.2.2.2.2.2.2.2.2.2.2.2.2.2.1 k hk
      have h13 : up_2 (up_2 I m 7 (iN 0)) (m + 1) 1 (iN (s_ni S)) (m + 1) (37 + 6 * k + 1) = iN (w_of (ug (s_U S) k)) := h13.2.1
      have h12 := hR1.2.2.2.2.2.2.2.2.2.2.2.2.1 (w_of (ug (s_U S) k)) w6.1
      have e0 : up_2 (up_2 I m 7 (iN 0)) (m + 1) 1 (iN (s_ni S)) (m + 1) (19 + 3 * w_of (ug (s_U S) k) + 0) = iN (p_pl (s_P S) (w_of (ug (s_U S) k))) := h12.1
      have e1 : up_2 (up_2 I m 7 (iN 0)) (m + 1) 1 (iN (s_ni S)) (m + 1) (19 + 3 * w_of (ug (s_U S) k) + 1) = iN (p_ho (s_P S) (w_of (ug (s_U S) k))) := h12.2.1
      have q2 := c_of (d := d + 4) (I := up_2 (up_2 I m 7 (iN 0)) (m + 1) 1 (iN (s_ni S))) k0 r0 g1 (k := k) (w := 1) (by omega) (by omega)
      rw [h13] at q2
      have q3 := c_ofStatue (d := d + 4) (I := up_2 (up_2 I m 7 (iN 0)) (m + 1) 1 (iN (s_ni S))) k0 r0 g1 (k := w_of (ug (s_U S) k)) (w := 1) (by omega) (by omega)
      rw [e1] at q3
      have q4 := c_ofStatue (d := d + 4) (I := up_2 (up_2 I m 7 (iN 0)) (m + 1) 1 (iN (s_ni S))) k0 r0 g1 (k := w_of (ug (s_U S) k)) (w := 0) (by omega) (by omega)
      rw [e0] at q4
      have eq4 : (iN (p_pl (s_P S) (w_of (ug (s_U S) k))) = iN (p_ho (s_P S) (w_of (ug (s_U S) k)))) = (p_pl (s_P S) (w_of (ug (s_U S) k)) = p_ho (s_P S) (w_of (ug (s_U S) k))) := iN_eq (by omega) (by omega)
      unfold heS heC hmB
      by_cases z : p_pl (s_P S) (w_of (ug (s_U S) k)) = p_ho (s_P S) (w_of (ug (s_U S) k))
      · rw [if_pos (beq_iff_eq.mpr z), if_pos (beq_iff_eq.mpr z)]
        rw [eq_true z] at eq4
        obtain ⟨I', t1, t2, t3, t4⟩ := c_dismiss (d := d) hL0 hR1 (wS_heT hw) hk
        have t1 : CC (d + 4) 246 [.ref m, .int (iN (w_id (ug (s_U S) k)))] (up_2 (up_2 I m 7 (iN 0)) (m + 1) 1 (iN (s_ni S)), τ) = some (.inl none, (I', τ)) := t1
        rw [← hx] at t1
        refine ⟨I', ?_, ⟨t2, ?_, MP_v (v := iN 0) (fun c hc => by rw [t4 c hc, up_c hc])⟩⟩
        · rw [c_247, b_247_0]
          simp (disch := omega) only [rd_I_mk, rd_R_mk, rd_L_mk, rd_D_mk, kd_mk, wr_I_mk, cp_mk, gd_true, bd_ret, bd_thr, vl_none, vl_some, iN_add, iN_mul, iN_sub, iN_lt, iN_eq, iN_n, iN_m1, iN_pred, vp_iN, K0_le, nr_b0, nr_b1, m1_lt, lt_m1, iN_ne_m1, m1_ne_iN, not_lt_z, true_and, and_true, and_self, or_true, true_or, or_false, false_or, if_true, if_false, ↓reduceIte, eq_self, up_at, up_a, up_k, cp_c, cp_b, Nat.zero_add, Nat.add_zero, Nat.sub_zero, Nat.le_refl, Nat.add_sub_cancel, fu_at, fu_ne, iN_nz, n10_f, n01_f, ofN, qq_at_100, k110b, Nat.lt_irrefl, Nat.not_lt_zero, ne_eq, not_false_eq_true, not_true_eq_false, k0, r0, g1, q1, oN, b_247_3, b_247_10, thF k0 m70, b_247_12, h0, h1, he, b_247_26, b_247_28, up_up, b_247_39, q2, b_247_43, q3, b_247_48, q4, b_247_53, eq4, t1, b_247_58]
        · rw [t4 m (by omega), up_c (by omega), up_at]; rfl
      · rw [if_neg (fun q => z (beq_iff_eq.mp q)), if_neg (fun q => z (beq_iff_eq.mp q))]
        rw [eq_false z] at eq4
        have q5 := c_on (d := d + 3) hL0 hR1 (wS_heT hw) (x := p_ho (s_P S) (w_of (ug (s_U S) k))) (by omega)
        have q5 : CC (d + 4) 221 [.ref m, .int (iN (p_ho (s_P S) (w_of (ug (s_U S) k))))] (up_2 (up_2 I m 7 (iN 0)) (m + 1) 1 (iN (s_ni S)), τ) = some (.inl (some (.int (oN (onP (s_P S) (p_ho (s_P S) (w_of (ug (s_U S) k))))))), (up_2 (up_2 I m 7 (iN 0)) (m + 1) 1 (iN (s_ni S)), τ)) := q5
        cases ho : onP (s_P S) (p_ho (s_P S) (w_of (ug (s_U S) k))) with
        | none =>
          rw [ho] at q5
          have hRm : R_F (up_2 (up_2 (up_2 I m 7 (iN 0)) (m + 1) 1 (iN (s_ni S))) (m + 1) (19 + 3 * w_of (ug (s_U S) k) + 0) (iN (p_ho (s_P S) (w_of (ug (s_U S) k)))) (m + 1)) (heQ S k) := by
            unfold heQ heP
            rw [if_pos ho]
            exact R_F_mov hR1 wnp wst w3 w6.1
          have q6 := c_setsStatue (d := d + 4) (I := up_2 (up_2 I m 7 (iN 0)) (m + 1) 1 (iN (s_ni S))) k0 m70 r0 g1 (k := w_of (ug (s_U S) k)) (w := 0) (by omega) (by omega) (v := iN (p_ho (s_P S) (w_of (ug (s_U S) k))))
          obtain ⟨I', t1, t2, t3⟩ := c_upheld2 (d := d) hL0 hw hk hRm x (iN (w_of (ug (s_U S) k))) (iN (p_ho (s_P S) (w_of (ug (s_U S) k))))
          refine ⟨I', ?_, ⟨t2, ?_, MP_v (v := iN 0) (fun c hc => by rw [t3 c hc, up_c hc, up_c hc])⟩⟩
          · rw [c_247, b_247_0]
            simp (disch := omega) only [rd_I_mk, rd_R_mk, rd_L_mk, rd_D_mk, kd_mk, wr_I_mk, cp_mk, gd_true, bd_ret, bd_thr, vl_none, vl_some, iN_add, iN_mul, iN_sub, iN_lt, iN_eq, iN_n, iN_m1, iN_pred, vp_iN, K0_le, nr_b0, nr_b1, m1_lt, lt_m1, iN_ne_m1, m1_ne_iN, not_lt_z, true_and, and_true, and_self, or_true, true_or, or_false, false_or, if_true, if_false, ↓reduceIte, eq_self, up_at, up_a, up_k, cp_c, cp_b, Nat.zero_add, Nat.add_zero, Nat.sub_zero, Nat.le_refl, Nat.add_sub_cancel, fu_at, fu_ne, iN_nz, n10_f, n01_f, ofN, qq_at_100, k110b, Nat.lt_irrefl, Nat.not_lt_zero, ne_eq, not_false_eq_true, not_true_eq_false, k0, r0, g1, q1, oN, b_247_3, b_247_10, thF k0 m70, b_247_12, h0, h1, he, b_247_26, b_247_28, up_up, b_247_39, q2, b_247_43, q3, b_247_48, q4, b_247_53, eq4, q5, b_247_63, q6]
            exact t1
          · rw [t3 m (by omega), up_c (by omega), up_c (by omega), up_at]; rfl
        | some j =>
          rw [ho] at q5
          have hj : j < 6 := by
            have := (ff_some _ _ _ ho).2.1
            omega
          have hRm : R_F (up_2 (up_2 I m 7 (iN 0)) (m + 1) 1 (iN (s_ni S)) (m + 1)) (heQ S k) := by
            unfold heQ heP
            rw [if_neg (by rw [ho]; exact (fun h => nomatch h))]
            exact hR1
          obtain ⟨I', t1, t2, t3⟩ := c_upheld2 (d := d) hL0 hw hk hRm x (iN (w_of (ug (s_U S) k))) (iN (p_ho (s_P S) (w_of (ug (s_U S) k))))
          refine ⟨I', ?_, ⟨t2, ?_, MP_v (v := iN 0) (fun c hc => by rw [t3 c hc, up_c hc])⟩⟩
          · rw [c_247, b_247_0]
            simp (disch := omega) only [rd_I_mk, rd_R_mk, rd_L_mk, rd_D_mk, kd_mk, wr_I_mk, cp_mk, gd_true, bd_ret, bd_thr, vl_none, vl_some, iN_add, iN_mul, iN_sub, iN_lt, iN_eq, iN_n, iN_m1, iN_pred, vp_iN, K0_le, nr_b0, nr_b1, m1_lt, lt_m1, iN_ne_m1, m1_ne_iN, not_lt_z, true_and, and_true, and_self, or_true, true_or, or_false, false_or, if_true, if_false, ↓reduceIte, eq_self, up_at, up_a, up_k, cp_c, cp_b, Nat.zero_add, Nat.add_zero, Nat.sub_zero, Nat.le_refl, Nat.add_sub_cancel, fu_at, fu_ne, iN_nz, n10_f, n01_f, ofN, qq_at_100, k110b, Nat.lt_irrefl, Nat.not_lt_zero, ne_eq, not_false_eq_true, not_true_eq_false, k0, r0, g1, q1, oN, b_247_3, b_247_10, thF k0 m70, b_247_12, h0, h1, he, b_247_26, b_247_28, up_up, b_247_39, q2, b_247_43, q3, b_247_48, q4, b_247_53, eq4, q5, b_247_63]
            exact t1
          · rw [t3 m (by omega), up_c (by omega), up_at]; rfl
end MHE
