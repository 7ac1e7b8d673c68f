/-! A NIGHT, THE TREASURY, A HEARING -/
def npf (n : Nat) : sW → Bool := fun w => decide (n ≤ w_la w)
theorem npf_ok (n : Nat) : fok (npf n) := fun _ _ => rfl
def nt1 (S : sS) : sS := (s_P S, s_U S, s_M S, (s_ni S + 1, s_he S, s_up S, s_di S, s_la S))
def npL (S : sS) : sS := dsL (npf (s_ni S + 1)) (nt1 S)
def npM (S : sS) : Nat := (mvP (s_U (npL S)) (p_ns (s_P S)) (s_P S)).2
def npS (S : sS) : sS := ((mvP (s_U (npL S)) (p_ns (s_P S)) (s_P S)).1, s_U (npL S), s_M (npL S), s_N (npL S))
theorem wS_nt1 {B : Nat} {S : sS} (h : wS B S) (hB : B + 1 ≤ 900000) : wS (B + 1) (nt1 S) := by
  obtain ⟨q1, q2, q3, q4, q5, q6, q7, q8, q9⟩ := h
  refine ⟨hB, q2, q3, by show unx (s_U S) ≤ B + 1; omega, by show s_ni S + 1 ≤ B + 1; omega, fun k hk => ⟨(q6 k hk).1, by have := (q6 k hk).2; show w_la (ug (s_U S) k) ≤ B + 1 + 20; omega⟩, fun w hw => by have := q7 w hw; show m_bl (s_M S) w + 60 * un (s_U S) ≤ B + 1; omega, by show s_he S ≤ s_ni S + 1 + 1; omega, q9⟩
section NA
variable {d : Nat} {I : qq_I} {τ : qq_R} {b : Nat} {S : sS} {B : Nat}
theorem c_letNightPass (hL : L_R τ b) (hR : R_R I b S) (hw : wS B S) (hB : B + 1 ≤ 900000) :
    ∃ I', CC (d + 3) 94 [.ref b] (I, τ) = some (.inl (some (.int (iN (npM S)))), (I', τ)) ∧ R_R I' b (npS S) ∧ wS (B + 1) (npS S) ∧ Fr b 17 I I' := by
  have hL0 := hL
  obtain ⟨hb70, k0, k1, k2, k3, lp, lw, lm⟩ := hL
  have l2 := lw.2.1
  have k4 := lw.2.2.2.2.1
  have q3 := lw.2.2.2.2.2.2.2.2.2.2.1
  have f_ok := npf_ok (s_ni S + 1)
  have lp9 : ∀ k (T : sS) (J : qq_I), wS (B + 1) T → R_R J b T → Fr b 17 I J → dsL (npf (s_ni S + 1)) T = npL S → s_ni T = s_ni S + 1 → k ≤ un (s_U T) → (∀ i, k ≤ i → i < un (s_U T) → npf (s_ni S + 1) (ug (s_U T) i) = true) →
      ∃ I', RR (d + 3) 94 12 [some (.ref b), some (.int (iN k + m1))] [] (J, τ) = some (.inl (some (.int (iN (npM S)))), (I', τ)) ∧ R_R I' b (npS S) ∧ wS (B + 1) (npS S) ∧ Fr b 17 I I' := by
    intro k
    induction k with
    | zero =>
      intro T J hT hJ hF hd _ _ h1
      have e : dsL (npf (s_ni S + 1)) T = T := dsL_all (fun i hi => h1 i (Nat.zero_le _) hi)
      rw [e] at hd
      subst hd
      obtain ⟨J1, s1, s2, s3⟩ := c_moveStatues (d := d) hL0 hJ hT
      have hm := mvP_wS hT (Nat.le_refl _)
      refine ⟨J1, ?_, s2, hm, Fr_tr hF s3⟩
      rw [z_m1, b_94_12]
      simp (disch := omega) only [rd_I_mk, rd_R_mk, rd_L_mk, rd_D_mk, kd_mk, wr_I_mk, cp_mk, gd_true, bd_ret, bd_thr, vl_none, vl_some, iN_add, iN_mul, iN_sub, iN_lt, iN_eq, iN_n, iN_m1, iN_pred, vp_iN, K0_le, nr_b0, nr_b1, m1_lt, lt_m1, iN_ne_m1, m1_ne_iN, not_lt_z, true_and, and_true, and_self, or_true, true_or, or_false, false_or, if_true, if_false, ↓reduceIte, eq_self, up_at, up_a, up_k, cp_c, cp_b, Nat.zero_add, Nat.add_zero, Nat.sub_zero, Nat.le_refl, Nat.add_sub_cancel, fu_at, fu_ne, iN_nz, n10_f, n01_f, ofN, qq_at_100, k110b, Nat.lt_irrefl, Nat.not_lt_zero, ne_eq, not_false_eq_true, not_true_eq_false, k0, s1, b_94_35]
      rfl
    | succ k ih =>
      intro T J hT hJ hF hd hn hk1 h1
      have w1 := hT.2.2.1.1
      have w2 := hT.2.2.1.2.2.2 k (by omega)
      have w3 := w2.2.2.2.2.2.1
      have w4 := hT.2.2.2.2.1
      have w5 := hT.1
      have r3 : J b 3 = iN (s_ni T) := hJ.2.2.2.1
      rw [hn] at r3
      have r4 := hJ.2.1.2.2.2.2.1 k (by omega)
      have hc : (iN (w_la (ug (s_U T) k)) < iN (s_ni S + 1)) = (w_la (ug (s_U T) k) < s_ni S + 1) := iN_lt (by omega) (by omega)
      rw [iN_m1, b_94_12]
      by_cases q : w_la (ug (s_U T) k) < s_ni S + 1
      · have hgk : npf (s_ni S + 1) (ug (s_U T) k) = false := decide_eq_false (by omega)
        rw [eq_true q] at hc
        obtain ⟨J1, s1, s2, s3⟩ := c_closeWithoutFine (d := d) hL0 hJ hT (k := k) (by omega)
        have hun : un (s_U (clS T k)) = un (s_U T) - 1 := un_close (by omega)
        obtain ⟨I', t1, t2⟩ := ih (clL T k) (up_2 J1 b 7 (s_la T + iN 1)) (wS_cnt (wS_cl hT (by omega))) (R_R_n (S := clS T k) s2 (fun _ => rfl) (fun _ => rfl) (fun _ => rfl) (fun _ => rfl) (fun z => absurd rfl z) (fun z => by omega) (fun z => by omega) (fun z => by omega) (fun z => by omega) (fun _ => rfl)) (Fr_tr hF (Fr_tr s3 (Fr_up (by omega)))) ((dsL_close f_ok (by omega) hgk).trans hd) hn (by show k ≤ un (s_U (clS T k)); omega)
          (fun i hi1 hi2 => by
            have hi2 : i < un (s_U (clS T k)) := hi2
            show npf (s_ni S + 1) (ug (su_close (s_U T) k) i) = _
            rw [ug_close (by omega) (by omega), if_neg (by omega), f_ok]; exact h1 (i + 1) (by omega) (by omega))
        refine ⟨I', ?_, t2⟩
        have e6 := s2.2.2.2.2.2.2.2
        have e6 : J1 b 7 = s_la T := e6
        simp (disch := omega) only [rd_I_mk, rd_R_mk, rd_L_mk, rd_D_mk, kd_mk, wr_I_mk, cp_mk, gd_true, bd_ret, bd_thr, vl_none, vl_some, iN_add, iN_mul, iN_sub, iN_lt, iN_eq, iN_n, iN_m1, iN_pred, vp_iN, K0_le, nr_b0, nr_b1, m1_lt, lt_m1, iN_ne_m1, m1_ne_iN, not_lt_z, true_and, and_true, and_self, or_true, true_or, or_false, false_or, if_true, if_false, ↓reduceIte, eq_self, up_at, up_a, up_k, cp_c, cp_b, Nat.zero_add, Nat.add_zero, Nat.sub_zero, Nat.le_refl, Nat.add_sub_cancel, fu_at, fu_ne, iN_nz, n10_f, n01_f, ofN, qq_at_100, k110b, Nat.lt_irrefl, Nat.not_lt_zero, ne_eq, not_false_eq_true, not_true_eq_false, k0, k2, l2, k4, q3, r4, r3, hc, s1, b_94_25, e6, b_94_31]
        exact t1
      · have hgk : npf (s_ni S + 1) (ug (s_U T) k) = true := decide_eq_true (by omega)
        rw [eq_false q] at hc
        obtain ⟨I', t1, t2⟩ := ih T J hT hJ hF hd hn (by omega) (fun i hi1 hi2 => by
          by_cases e : i = k
          · rw [e]; exact hgk
          · exact h1 i (by omega) hi2)
        refine ⟨I', ?_, t2⟩
        simp (disch := omega) only [not_lt_z, if_false, rd_I_mk, rd_R_mk, kd_mk, gd_true, vp_iN, ofN, qq_at_100, true_and, and_true, k0, k2, l2, k4, q3, r4, r3, hc, b_94_31, up_a, iN_n]
        exact t1
  have h0 := hR.2.1.1
  have w1 := hw.2.2.1.1
  have r3 := hR.2.2.2.1
  have hn1 := wS_nt1 hw hB
  have hR1 : R_R (up_2 I b 3 (iN (s_ni S + 1))) b (nt1 S) := R_R_n hR (fun z => absurd rfl z) (fun _ => rfl) (fun _ => rfl) (fun _ => rfl) (fun _ => rfl) (fun _ => rfl) (fun z => by omega) (fun z => by omega) (fun z => by omega) (fun z => by omega)
  obtain ⟨I', t1, t2⟩ := lp9 (un (s_U S)) (nt1 S) (up_2 I b 3 (iN (s_ni S + 1))) hn1 hR1 (Fr_up (by omega)) rfl rfl (Nat.le_refl _) (fun i h1 h2 => absurd h2 (by show ¬ i < un (s_U S); omega))
  refine ⟨I', ?_, t2⟩
  rw [c_94, b_94_0]
  simp (disch := omega) only [rd_I_mk, rd_R_mk, rd_L_mk, rd_D_mk, kd_mk, wr_I_mk, cp_mk, gd_true, bd_ret, bd_thr, vl_none, vl_some, iN_add, iN_mul, iN_lt, iN_eq, iN_n, iN_m1, iN_pred, vp_iN, K0_le, nr_b0, nr_b1, m1_lt, lt_m1, iN_ne_m1, m1_ne_iN, not_lt_z, true_and, and_true, and_self, or_true, true_or, or_false, false_or, if_true, if_false, ↓reduceIte, eq_self, up_at, up_a, up_k, cp_c, cp_b, Nat.zero_add, Nat.add_zero, Nat.sub_zero, Nat.le_refl, Nat.add_sub_cancel, fu_at, fu_ne, iN_nz, n10_f, n01_f, ofN, qq_at_100, k110b, Nat.lt_irrefl, Nat.not_lt_zero, ne_eq, not_false_eq_true, not_true_eq_false, k0, k2, l2, h0, r3, b_94_6]
  rw [iN_s1]
  exact t1
theorem npS_ns (hw : wS B S) (hB : B + 1 ≤ 900000) : p_ns (s_P (npS S)) = p_ns (s_P S) ∧ p_np (s_P (npS S)) = p_np (s_P S) ∧ npM S ≤ 6 := by
  obtain ⟨h1, h2, h3, h4, h5, h6, h7, h8⟩ := mvP_ok (U := s_U (npL S)) hw.2.1 (p_ns (s_P S)) (Nat.le_refl _)
  have := hw.2.1.2.1
  exact ⟨h3, h4, Nat.le_trans h8 this⟩
/-- so many nights: the state and the moves -/
def npN : Nat → sS → sS × Nat
  | 0, S => (S, 0)
  | n + 1, S => (npS (npN n S).1, (npN n S).2 + npM (npN n S).1)
theorem npN_w (hw : wS B S) : ∀ n, B + n ≤ 900000 → wS (B + n) (npN n S).1 → True := fun _ _ _ => trivial
theorem c_letNightsPass (hL : L_R τ b) (hR : R_R I b S) (hw : wS B S) {n : Nat} (hn : n < 1000) (hB : B + n ≤ 900000) :
    ∃ I', CC (d + 4) 93 [.ref b, .int (iN n)] (I, τ) = some (.inl (some (.int (iN (npN n S).2))), (I', τ)) ∧ R_R I' b (npN n S).1 ∧ wS (B + n) (npN n S).1 ∧ Fr b 17 I I' := by
  have hL0 := hL
  have k0 := hL.2.1
  have lp9 : ∀ m r (J : qq_I), r + m = n → wS (B + r) (npN r S).1 → R_R J b (npN r S).1 → Fr b 17 I J →
      ∃ I', RR (d + 4) 93 4 [some (.ref b), some (.int (iN n)), some (.int (iN (npN r S).2)), some (.int (iN r))] [] (J, τ) = some (.inl (some (.int (iN (npN n S).2))), (I', τ)) ∧ R_R I' b (npN n S).1 ∧ wS (B + n) (npN n S).1 ∧ Fr b 17 I I' := by
    intro m
    induction m with
    | zero =>
      intro r J hr hw hJ hF
      have hr : r = n := hr
      subst hr
      refine ⟨J, ?_, hJ, hw, hF⟩
      rw [b_93_4]
      simp (disch := omega) only [rd_I_mk, rd_R_mk, rd_L_mk, rd_D_mk, kd_mk, wr_I_mk, cp_mk, gd_true, bd_ret, bd_thr, vl_none, vl_some, iN_add, iN_mul, iN_sub, iN_lt, iN_eq, iN_n, iN_m1, iN_pred, vp_iN, K0_le, nr_b0, nr_b1, m1_lt, lt_m1, iN_ne_m1, m1_ne_iN, not_lt_z, true_and, and_true, and_self, or_true, true_or, or_false, false_or, if_true, if_false, ↓reduceIte, eq_self, up_at, up_a, up_k, cp_c, cp_b, Nat.zero_add, Nat.add_zero, Nat.sub_zero, Nat.le_refl, Nat.add_sub_cancel, fu_at, fu_ne, iN_nz, n10_f, n01_f, ofN, qq_at_100, k110b, Nat.lt_irrefl, Nat.not_lt_zero, ne_eq, not_false_eq_true, not_true_eq_false]
    | succ m ih =>
      intro r J hr hw hJ hF
      obtain ⟨J1, s1, s2, s3, s4⟩ := c_letNightPass (d := d) hL0 hJ hw (by omega)
      obtain ⟨I', t1, t2⟩ := ih (r + 1) J1 (by omega) s3 s2 (Fr_tr hF s4)
      refine ⟨I', ?_, t2⟩
      have e : r < n := by omega
      rw [b_93_4]
      simp (disch := omega) only [rd_I_mk, rd_R_mk, rd_L_mk, rd_D_mk, kd_mk, wr_I_mk, cp_mk, gd_true, bd_ret, bd_thr, vl_none, vl_some, iN_add, iN_mul, iN_sub, iN_lt, iN_eq, iN_n, iN_m1, iN_pred, vp_iN, K0_le, nr_b0, nr_b1, m1_lt, lt_m1, iN_ne_m1, m1_ne_iN, not_lt_z, true_and, and_true, and_self, or_true, true_or, or_false, false_or, if_true, if_false, ↓reduceIte, eq_self, up_at, up_a, up_k, cp_c, cp_b, Nat.zero_add, Nat.add_zero, Nat.sub_zero, Nat.le_refl, Nat.add_sub_cancel, fu_at, fu_ne, iN_nz, n10_f, n01_f, ofN, qq_at_100, k110b, Nat.lt_irrefl, Nat.not_lt_zero, ne_eq, not_false_eq_true, not_true_eq_false, k0, e, s1, b_93_10]
      exact t1
  obtain ⟨I', t1, t2⟩ := lp9 n 0 I (Nat.zero_add _) hw hR Fr_rf
  refine ⟨I', ?_, t2⟩
  rw [c_93, b_93_0]
  exact t1
def hmB (S : sS) (s : Nat) : Bool := p_pl (s_P S) s == p_ho (s_P S) s
/-- nights until the statue stands at home, -1: not within so many -/
def nuV : Nat → sS → Nat → Nat → Int32
  | 0, S, s, _ => if hmB S s = true then iN 50 else m1
  | m + 1, S, s, r => if hmB S s = true then iN r else nuV m (npS S) s (r + 1)
theorem c_nightsUntil (hL : L_R τ b) (hR : R_R I b S) (hw : wS B S) (hB : B + 50 ≤ 900000) {s : Nat} (hs : s < p_ns (s_P S)) :
    ∃ I', CC (d + 4) 96 [.ref b, .int (iN s)] (I, τ) = some (.inl (some (.int (nuV 50 S s 0))), (I', τ)) ∧ Fr b 17 I I' := by
  have hL0 := hL
  obtain ⟨hb70, k0, k1, k2, k3, lp, lw, lm⟩ := hL
  have l1 := lp.2.1
  have lp9 : ∀ m r (T : sS) (J : qq_I), r + m = 50 → wS (B + r) T → R_R J b T → Fr b 17 I J → s < p_ns (s_P T) →
      ∃ I', RR (d + 4) 96 2 [some (.ref b), some (.int (iN s)), some (.int (iN r))] [] (J, τ) = some (.inl (some (.int (nuV m T s r))), (I', τ)) ∧ Fr b 17 I I' := by
    intro m
    induction m with
    | zero =>
      intro r T J hr hT hJ hF hs
      have hr : r = 50 := hr
      subst hr
      have f := c_standsAtHome (d := d + 3) lp hJ.1 hT.2.1 hs
      rw [b_96_2, nuV]
      unfold hmB
      by_cases q : p_pl (s_P T) s = p_ho (s_P T) s
      · rw [if_pos q] at f
        rw [if_pos (beq_iff_eq.mpr q)]
        refine ⟨J, ?_, hF⟩
        simp (disch := omega) only [rd_I_mk, rd_R_mk, rd_L_mk, rd_D_mk, kd_mk, wr_I_mk, cp_mk, gd_true, bd_ret, bd_thr, vl_none, vl_some, iN_add, iN_mul, iN_sub, iN_lt, iN_eq, iN_n, iN_m1, iN_pred, vp_iN, K0_le, nr_b0, nr_b1, m1_lt, lt_m1, iN_ne_m1, m1_ne_iN, not_lt_z, true_and, and_true, and_self, or_true, true_or, or_false, false_or, if_true, if_false, ↓reduceIte, eq_self, up_at, up_a, up_k, cp_c, cp_b, Nat.zero_add, Nat.add_zero, Nat.sub_zero, Nat.le_refl, Nat.add_sub_cancel, fu_at, fu_ne, iN_nz, n10_f, n01_f, ofN, qq_at_100, k110b, Nat.lt_irrefl, Nat.not_lt_zero, ne_eq, not_false_eq_true, not_true_eq_false, k0, k1, l1, f, b_96_21, b_96_25]
      · rw [if_neg q] at f
        rw [if_neg (fun z => q (beq_iff_eq.mp z))]
        refine ⟨J, ?_, hF⟩
        simp (disch := omega) only [rd_I_mk, rd_R_mk, rd_L_mk, rd_D_mk, kd_mk, wr_I_mk, cp_mk, gd_true, bd_ret, bd_thr, vl_none, vl_some, iN_add, iN_mul, iN_sub, iN_lt, iN_eq, iN_n, iN_m1, iN_pred, vp_iN, K0_le, nr_b0, nr_b1, m1_lt, lt_m1, iN_ne_m1, m1_ne_iN, not_lt_z, true_and, and_true, and_self, or_true, true_or, or_false, false_or, if_true, if_false, ↓reduceIte, eq_self, up_at, up_a, up_k, cp_c, cp_b, Nat.zero_add, Nat.add_zero, Nat.sub_zero, Nat.le_refl, Nat.add_sub_cancel, fu_at, fu_ne, iN_nz, n10_f, n01_f, ofN, qq_at_100, k110b, Nat.lt_irrefl, Nat.not_lt_zero, ne_eq, not_false_eq_true, not_true_eq_false, k0, k1, l1, f, b_96_21, b_96_25]
    | succ m ih =>
      intro r T J hr hT hJ hF hs
      have f := c_standsAtHome (d := d + 3) lp hJ.1 hT.2.1 hs
      have e : r < 50 := by omega
      rw [b_96_2, nuV]
      unfold hmB
      by_cases q : p_pl (s_P T) s = p_ho (s_P T) s
      · rw [if_pos q] at f
        rw [if_pos (beq_iff_eq.mpr q)]
        refine ⟨J, ?_, hF⟩
        simp (disch := omega) only [rd_I_mk, rd_R_mk, rd_L_mk, rd_D_mk, kd_mk, wr_I_mk, cp_mk, gd_true, bd_ret, bd_thr, vl_none, vl_some, iN_add, iN_mul, iN_sub, iN_lt, iN_eq, iN_n, iN_m1, iN_pred, vp_iN, K0_le, nr_b0, nr_b1, m1_lt, lt_m1, iN_ne_m1, m1_ne_iN, not_lt_z, true_and, and_true, and_self, or_true, true_or, or_false, false_or, if_true, if_false, ↓reduceIte, eq_self, up_at, up_a, up_k, cp_c, cp_b, Nat.zero_add, Nat.add_zero, Nat.sub_zero, Nat.le_refl, Nat.add_sub_cancel, fu_at, fu_ne, iN_nz, n10_f, n01_f, ofN, qq_at_100, k110b, Nat.lt_irrefl, Nat.not_lt_zero, ne_eq, not_false_eq_true, not_true_eq_false, e, k0, k1, l1, f, b_96_9]
      · rw [if_neg q] at f
        rw [if_neg (fun z => q (beq_iff_eq.mp z))]
        obtain ⟨J1, s1, s2, s3, s4⟩ := c_letNightPass (d := d) hL0 hJ hT (by omega)
        obtain ⟨n1, n2, n3⟩ := npS_ns hT (by omega)
        obtain ⟨I', t1, t2⟩ := ih (r + 1) (npS T) J1 (by omega) s3 s2 (Fr_tr hF s4) (by omega)
        refine ⟨I', ?_, t2⟩
        simp (disch := omega) only [rd_I_mk, rd_R_mk, rd_L_mk, rd_D_mk, kd_mk, wr_I_mk, cp_mk, gd_true, bd_ret, bd_thr, vl_none, vl_some, iN_add, iN_mul, iN_sub, iN_lt, iN_eq, iN_n, iN_m1, iN_pred, vp_iN, K0_le, nr_b0, nr_b1, m1_lt, lt_m1, iN_ne_m1, m1_ne_iN, not_lt_z, true_and, and_true, and_self, or_true, true_or, or_false, false_or, if_true, if_false, ↓reduceIte, eq_self, up_at, up_a, up_k, cp_c, cp_b, Nat.zero_add, Nat.add_zero, Nat.sub_zero, Nat.le_refl, Nat.add_sub_cancel, fu_at, fu_ne, iN_nz, n10_f, n01_f, ofN, qq_at_100, k110b, Nat.lt_irrefl, Nat.not_lt_zero, ne_eq, not_false_eq_true, not_true_eq_false, e, k0, k1, l1, f, b_96_9, s1, b_96_14]
        exact t1
  obtain ⟨I', t1, t2⟩ := lp9 50 0 S I rfl hw hR Fr_rf hs
  refine ⟨I', ?_, t2⟩
  rw [c_96, b_96_0]
  exact t1
/-- a writ opened -/
def opS (S : sS) (of n ba ca : Nat) : sS := (s_P S, su_open (s_U S) of (s_ni S + n) ba ca, s_M S, s_N S)
theorem wU_open {U : sU} (hw : wU U) (hn : un U < 8) (hx : unx U + 1 < 1000000) {of la ba ca : Nat} (hof : of < 6) (hla : la < 1000000) (hb1 : 1 ≤ ba) (hba : ba ≤ 60) (hca : ca = 0 ∨ ∃ j, j < un U ∧ ca = w_id (ug U j) + 1) : wU (su_open U of la ba ca) := by
  obtain ⟨w1, w2, w3, w4⟩ := hw
  refine ⟨by rw [un_open]; omega, hx, fun i j hij hj => ?_, fun k hk => ?_⟩
  · rw [un_open] at hj
    rw [ug_open, ug_open, if_pos (show i < un U by omega)]
    by_cases q : j < un U
    · rw [if_pos q]; exact w3 i j hij q
    · rw [if_neg q, if_pos (show j = un U by omega)]
      exact (w4 i (by omega)).1
  · rw [un_open] at hk
    rw [ug_open]
    by_cases q : k < un U
    · rw [if_pos q]
      obtain ⟨q1, q2, q3, q4, q5, q6, q7⟩ := w4 k q
      refine ⟨by show _ < unx U + 1; omega, q2, q3, q4, q5, q6, ?_⟩
      rcases q7 with q7 | ⟨j, h1, h2⟩
      · exact Or.inl q7
      · refine Or.inr ⟨j, h1, ?_⟩
        rw [ug_open, if_pos (by omega)]; exact h2
    · rw [if_neg q, if_pos (show k = un U by omega)]
      refine ⟨Nat.lt_succ_self _, hof, hb1, hba, Nat.zero_le _, hla, ?_⟩
      rcases hca with h | ⟨j, h1, h2⟩
      · exact Or.inl h
      · refine Or.inr ⟨j, by omega, ?_⟩
        rw [ug_open, if_pos h1]; exact h2
theorem wS_op (hw : wS B S) (hB : B + 60 ≤ 900000) (hn : un (s_U S) < 8) {of n ba ca : Nat} (hof : of < p_ns (s_P S)) (hn2 : n ≤ 20) (hb1 : 1 ≤ ba) (hba : ba ≤ 60) (hca : ca = 0 ∨ ∃ j, j < un (s_U S) ∧ ca = w_id (ug (s_U S) j) + 1) : wS (B + 60) (opS S of n ba ca) := by
  obtain ⟨q1, q2, q3, q4, q5, q6, q7, q8, q9⟩ := hw
  have w2 := q2.2.1
  refine ⟨hB, q2, wU_open q3 hn (by omega) (by omega) (by omega) hb1 hba hca, by show unx (s_U S) + 1 ≤ B + 60; omega, by show s_ni S ≤ B + 60; omega, fun k hk => ?_, fun w hw => ?_, q8, q9⟩
  · have hk : k < un (su_open (s_U S) of (s_ni S + n) ba ca) := hk
    rw [un_open] at hk
    show w_of (ug (su_open (s_U S) of (s_ni S + n) ba ca) k) < p_ns (s_P S) ∧ w_la (ug (su_open (s_U S) of (s_ni S + n) ba ca) k) ≤ B + 60 + 20
    rw [ug_open]
    by_cases q : k < un (s_U S)
    · rw [if_pos q]; have := q6 k q; omega
    · rw [if_neg q, if_pos (show k = un (s_U S) by omega)]
      exact ⟨hof, by show s_ni S + n ≤ _; omega⟩
  · show m_bl (s_M S) w + 60 * un (su_open (s_U S) of (s_ni S + n) ba ca) ≤ B + 60
    rw [un_open]
    have := q7 w hw
    omega
theorem c_openWrit (hL : L_R τ b) (hR : R_R I b S) (hw : wS B S) (hB : B + 60 ≤ 900000) (hn : un (s_U S) < 8) {of n ba ca : Nat} (hof : of < p_ns (s_P S)) (hn2 : n ≤ 20) (hb1 : 1 ≤ ba) (hba : ba ≤ 60) :
    ∃ I', CC (d + 1) 83 [.ref b, .int (iN of), .int (iN n), .int (iN ba), .int (caC ca)] (I, τ) = some (.inl (some (.int (iN (unx (s_U S))))), (I', τ)) ∧ R_R I' b (opS S of n ba ca) ∧ Fr b 17 I I' := by
  obtain ⟨hb70, k0, k1, k2, k3, lp, lw, lm⟩ := hL
  have l2 := lw.2.1
  have w2 := hw.2.1.2.1
  have w5 := hw.2.2.2.2.1
  have w1 := hw.1
  obtain ⟨h1, h2, h3, h4, h5, h6, h7, h8⟩ := hR
  obtain ⟨I', s1, s2, s3⟩ := c_open (d := d) lw h2 hw.2.2.1 hn (of := of) (la := s_ni S + n) (ba := ba) (ca := ca) (by omega) (by omega) hba
  refine ⟨I', ?_, ⟨R_P_same h1 (fun a _ _ => s3 a (by omega)), s2, R_M_same h3 (fun a _ _ => s3 a (by omega)), ?_, ?_, ?_, ?_, ?_⟩, fun a ha => s3 a (by omega)⟩
  · rw [c_83, b_83_0]
    simp (disch := omega) only [rd_I_mk, rd_R_mk, rd_L_mk, rd_D_mk, kd_mk, wr_I_mk, cp_mk, gd_true, bd_ret, bd_thr, vl_none, vl_some, iN_add, iN_mul, iN_sub, iN_lt, iN_eq, iN_n, iN_m1, iN_pred, vp_iN, K0_le, nr_b0, nr_b1, m1_lt, lt_m1, iN_ne_m1, m1_ne_iN, not_lt_z, true_and, and_true, and_self, or_true, true_or, or_false, false_or, if_true, if_false, ↓reduceIte, eq_self, up_at, up_a, up_k, cp_c, cp_b, Nat.zero_add, Nat.add_zero, Nat.sub_zero, Nat.le_refl, Nat.add_sub_cancel, fu_at, fu_ne, iN_nz, n10_f, n01_f, ofN, qq_at_100, k110b, Nat.lt_irrefl, Nat.not_lt_zero, ne_eq, not_false_eq_true, not_true_eq_false, k0, k2, l2, h4, s1, b_83_10]
  all_goals
    rw [s3 b (by omega)]; assumption
end NA
