/-! THE MODEL: what it is asked (three) -/
section MQ3
variable {d : Nat} {I : qq_I} {τ : qq_R} {m B : Nat} {C : sC}
/-- what the search of the nights leaves alone -/
def NI (m : Nat) (K J : qq_I) : Prop := (∀ a, a ≠ m → a ≠ m + 1 → J a = K a) ∧ (∀ k, k ≠ 11 → J m k = K m k)
theorem c_nights (hL : L_N τ m) {s : Nat} (hs6 : s < 6) {K : qq_I} (hB : B + 50 ≤ 900000) : ∀ q r (T : sS) (J : qq_I), r + q = 50 → wS (B + r) T → R_F (J (m + 1)) T → NI m K J → s < p_ns (s_P T) →
    ∃ J' n b, RR (d + 4) 273 22 [some (.ref m), some (.int (iN s)), some (.int (iN r)), none] [] (J, τ) = RR (d + 4) 273 38 [some (.ref m), some (.int (iN s)), some (.int (iN n)), none] [.int (b01 b)] (J', τ) ∧ NI m K J' ∧ nuV q T s r = (if b = true then iN n else m1) ∧ n ≤ 50 := by
  have hL0 := hL
  obtain ⟨m70, k0, r0, r1, r2, r3, r4, r5, -, -, -, g1, g2, g3, g4, g5, g6, -⟩ := hL
  intro q
  induction q with
  | zero =>
    intro r T J hr hT hJ hN hs
    have hr : r = 50 := hr
    subst hr
    have f := c_home2 (d := d + 2) hL0 hJ hT hs
    refine ⟨J, 50, hmB T s, ?_, hN, ?_, Nat.le_refl _⟩
    · rw [b_273_22]
      simp (disch := omega) only [rd_I_mk, rd_R_mk, rd_L_mk, rd_D_mk, kd_mk, wr_I_mk, cp_mk, gd_true, bd_ret, bd_thr, vl_none, vl_some, iN_add, iN_mul, iN_sub, iN_lt, iN_eq, iN_n, iN_m1, iN_pred, vp_iN, K0_le, nr_b0, nr_b1, m1_lt, lt_m1, iN_ne_m1, m1_ne_iN, not_lt_z, true_and, and_true, and_self, or_true, true_or, or_false, false_or, if_true, if_false, ↓reduceIte, eq_self, up_at, up_a, up_k, cp_c, cp_b, Nat.zero_add, Nat.add_zero, Nat.sub_zero, Nat.le_refl, Nat.add_sub_cancel, fu_at, fu_ne, iN_nz, n10_f, n01_f, ofN, qq_at_100, k110b, Nat.lt_irrefl, Nat.not_lt_zero, ne_eq, not_false_eq_true, not_true_eq_false, k0, b_273_35, f]
    · rfl
  | succ q ih =>
    intro r T J hr hT hJ hN hs
    have e : r < 50 := by omega
    have f := c_home2 (d := d + 2) hL0 hJ hT hs
    cases hb : hmB T s with
    | true =>
      rw [hb, b01_t] at f
      refine ⟨J, r, true, ?_, hN, ?_, by omega⟩
      · rw [b_273_22]
        simp (disch := omega) only [rd_I_mk, rd_R_mk, rd_L_mk, rd_D_mk, kd_mk, wr_I_mk, cp_mk, gd_true, bd_ret, bd_thr, vl_none, vl_some, iN_add, iN_mul, iN_sub, iN_lt, iN_eq, iN_n, iN_m1, iN_pred, vp_iN, K0_le, nr_b0, nr_b1, m1_lt, lt_m1, iN_ne_m1, m1_ne_iN, not_lt_z, true_and, and_true, and_self, or_true, true_or, or_false, false_or, if_true, if_false, ↓reduceIte, eq_self, up_at, up_a, up_k, cp_c, cp_b, Nat.zero_add, Nat.add_zero, Nat.sub_zero, Nat.le_refl, Nat.add_sub_cancel, fu_at, fu_ne, iN_nz, n10_f, n01_f, ofN, qq_at_100, k110b, Nat.lt_irrefl, Nat.not_lt_zero, ne_eq, not_false_eq_true, not_true_eq_false, e, k0, f, b_273_28, b_273_35, b01_t]
      · rw [nuV, hb]; rfl
    | false =>
      rw [hb, b01_f] at f
      obtain ⟨J1, s1, s2, s3, s4⟩ := c_nightPasses (d := d) hL0 hJ hT (by omega)
      obtain ⟨n1, n2, n3⟩ := npS_ns hT (by omega)
      obtain ⟨J', n, b, t1, t2, t3, t4⟩ := ih (r + 1) (npS T) (up_2 J1 m 11 (iN (npM T))) (by omega) s3 (by rw [up_c (by omega)]; exact s2) ⟨fun a h1 h2 => by rw [up_c h1, s4 a h2]; exact hN.1 a h1 h2, fun k hk => by rw [up_k hk, s4 m (by omega)]; exact hN.2 k hk⟩ (by omega)
      refine ⟨J', n, b, ?_, t2, ?_, t4⟩
      · rw [b_273_22]
        simp (disch := omega) only [rd_I_mk, rd_R_mk, rd_L_mk, rd_D_mk, kd_mk, wr_I_mk, cp_mk, gd_true, bd_ret, bd_thr, vl_none, vl_some, iN_add, iN_mul, iN_sub, iN_lt, iN_eq, iN_n, iN_m1, iN_pred, vp_iN, K0_le, nr_b0, nr_b1, m1_lt, lt_m1, iN_ne_m1, m1_ne_iN, not_lt_z, true_and, and_true, and_self, or_true, true_or, or_false, false_or, if_true, if_false, ↓reduceIte, eq_self, up_at, up_a, up_k, cp_c, cp_b, Nat.zero_add, Nat.add_zero, Nat.sub_zero, Nat.le_refl, Nat.add_sub_cancel, fu_at, fu_ne, iN_nz, n10_f, n01_f, ofN, qq_at_100, k110b, Nat.lt_irrefl, Nat.not_lt_zero, ne_eq, not_false_eq_true, not_true_eq_false, e, k0, f, b_273_28, s1, b_273_32, b_273_33]
        exact t1
      · rw [nuV, hb]; exact t3
theorem n_nightsUntilHome (h : R_N I τ m B C) (hB : B + 50 ≤ 900000) (x : Int32) : NQ d 273 [.ref m, .int x] I τ m B (qv (q_nights (g_S C) x)) (qc [0, 3] (q_nights (g_S C) x)) C := by
  have hL := h.1
  have hR := h.2.1
  have hw := h.2.2.1
  have hR7 : ∀ v, R_F (up_2 I m 7 v (m + 1)) (g_S C) := fun v => R_F_7 hR
  obtain ⟨m70, k0, r0, r1, r2, r3, r4, r5, -, -, -, g1, g2, g3, g4, g5, g6, -⟩ := hL
  have w1 := hw.2.1.1
  have w2 := hw.2.1.2.1
  have w3 := hw.2.2.1.1
  have q1 := c_isStatue (d := d + 38) h.1 hR hw x
  unfold q_nights
  cases hx : inN (p_ns (s_P (g_S C))) x with
  | false =>
    rw [hx, b01_f] at q1
    refine ⟨up_2 I m 7 (iN 1), ?_, PN_7 h⟩
    rw [c_273, b_273_0]
    simp (disch := omega) only [rd_I_mk, rd_R_mk, rd_L_mk, rd_D_mk, kd_mk, wr_I_mk, cp_mk, gd_true, bd_ret, bd_thr, vl_none, vl_some, iN_add, iN_mul, iN_sub, iN_lt, iN_eq, iN_n, iN_m1, iN_pred, vp_iN, K0_le, nr_b0, nr_b1, m1_lt, lt_m1, iN_ne_m1, m1_ne_iN, not_lt_z, true_and, and_true, and_self, or_true, true_or, or_false, false_or, if_true, if_false, ↓reduceIte, eq_self, up_at, up_a, up_k, cp_c, cp_b, Nat.zero_add, Nat.add_zero, Nat.sub_zero, Nat.le_refl, Nat.add_sub_cancel, fu_at, fu_ne, iN_nz, n10_f, n01_f, ofN, qq_at_100, k110b, Nat.lt_irrefl, Nat.not_lt_zero, ne_eq, not_false_eq_true, not_true_eq_false, k0, q1, b_273_4, b_273_8, b_273_10, thT k0 m70]
    rfl
  | true =>
    rw [hx, b01_t] at q1
    obtain ⟨j, hj, rfl⟩ := (inN_iff (by omega)).mp hx
    rw [if_pos rfl, tn_iN (by omega)]
    have q2 := c_copies (d := d + 39) (I := up_2 I m 7 (iN 0)) (sp := 0) (dp := 0) g1 g3 (by omega) (by omega) (by omega) (by omega) (by omega) (Or.inl (by omega))
    obtain ⟨J, n, b, t1, t2, t3, t4⟩ := c_nights (d := d + 36) h.1 (s := j) (by omega) (K := cp_2 (up_2 I m 7 (iN 0)) (m + 1) 0 (m + 3) 0 106) hB 50 0 (g_S C) (cp_2 (up_2 I m 7 (iN 0)) (m + 1) 0 (m + 3) 0 106) rfl hw (by rw [cp_c (by omega)]; exact hR7 _) ⟨fun _ _ _ => rfl, fun _ _ => rfl⟩ hj
    rw [t3]
    have q4 := c_copies (d := d + 39) (I := J) (sp := 0) (dp := 0) g3 g1 (by omega) (by omega) (by omega) (by omega) (by omega) (Or.inl (by omega))
    have hm : ∀ k, k ≠ 7 → k ≠ 11 → ∀ v, up_2 (cp_2 J (m + 3) 0 (m + 1) 0 106) m 7 v m k = I m k := fun k h1 h2 v => by rw [up_k h1, cp_c (by omega), t2.2 k h2, cp_c (by omega), up_k h1]
    have hs : ∀ v k, k < 106 → up_2 (cp_2 J (m + 3) 0 (m + 1) 0 106) m 7 v (m + 1) k = I (m + 1) k := fun v k hk => by
      rw [up_c (by omega), cp_b (by omega), t2.1 _ (by omega) (by omega), cp_b (by omega), up_c (by omega)]
      congr 1
      omega
    have ho : ∀ v a, a ≠ m → a ≠ m + 1 → a ≠ m + 3 → a ≠ m + 6 → up_2 (cp_2 J (m + 3) 0 (m + 1) 0 106) m 7 v a = I a := fun v a h1 h2 h3 h4 => by
      rw [up_c h1, cp_c h2, t2.1 a h1 h2, cp_c h3, up_c h1]
    have main : ∀ σ2, RR (d + 40) 273 38 [some (.ref m), some (.int (iN j)), some (.int (iN n)), none] [.int (b01 b)] (J, τ) = σ2 → CC (d + 40) 273 [.ref m, .int (iN j)] (I, τ) = σ2 := fun σ2 z => by
      rw [← z, c_273, b_273_0]
      simp (disch := omega) only [rd_I_mk, rd_R_mk, rd_L_mk, rd_D_mk, kd_mk, wr_I_mk, cp_mk, gd_true, bd_ret, bd_thr, vl_none, vl_some, iN_add, iN_mul, iN_sub, iN_lt, iN_eq, iN_n, iN_m1, iN_pred, vp_iN, K0_le, nr_b0, nr_b1, m1_lt, lt_m1, iN_ne_m1, m1_ne_iN, not_lt_z, true_and, and_true, and_self, or_true, true_or, or_false, false_or, if_true, if_false, ↓reduceIte, eq_self, up_at, up_a, up_k, cp_c, cp_b, Nat.zero_add, Nat.add_zero, Nat.sub_zero, Nat.le_refl, Nat.add_sub_cancel, fu_at, fu_ne, iN_nz, n10_f, n01_f, ofN, qq_at_100, k110b, Nat.lt_irrefl, Nat.not_lt_zero, ne_eq, not_false_eq_true, not_true_eq_false, k0, q1, b_273_4, b_273_8, b_273_10, thF k0 m70, r0, r2, q2, b_273_20]
      exact t1
    cases b with
    | true =>
      have e1 : (iN n = m1) = False := iN_ne_m1 (by omega)
      simp only [if_true, e1, if_false]
      refine ⟨_, main _ ?_, PN_o h (fun k h1 h2 => hm k h1 h2 (iN 0)) (hs (iN 0)) (ho (iN 0)) up_at⟩
      rw [b_273_38, b01_t]
      simp (disch := omega) only [rd_I_mk, rd_R_mk, rd_L_mk, rd_D_mk, kd_mk, wr_I_mk, cp_mk, gd_true, bd_ret, bd_thr, vl_none, vl_some, iN_add, iN_mul, iN_sub, iN_lt, iN_eq, iN_n, iN_m1, iN_pred, vp_iN, K0_le, nr_b0, nr_b1, m1_lt, lt_m1, iN_ne_m1, m1_ne_iN, not_lt_z, true_and, and_true, and_self, or_true, true_or, or_false, false_or, if_true, if_false, ↓reduceIte, eq_self, up_at, up_a, up_k, cp_c, cp_b, Nat.zero_add, Nat.add_zero, Nat.sub_zero, Nat.le_refl, Nat.add_sub_cancel, fu_at, fu_ne, iN_nz, n10_f, n01_f, ofN, qq_at_100, k110b, Nat.lt_irrefl, Nat.not_lt_zero, ne_eq, not_false_eq_true, not_true_eq_false, k0, r0, r2, q4, b_273_46, b_273_52, thF k0 m70, b_273_54, b_273_58]
      rfl
    | false =>
      simp only [Bool.false_eq_true, if_false, if_true]
      refine ⟨_, main _ ?_, PN_o h (fun k h1 h2 => hm k h1 h2 (iN 2)) (hs (iN 2)) (ho (iN 2)) up_at⟩
      rw [b_273_38, b01_f]
      simp (disch := omega) only [rd_I_mk, rd_R_mk, rd_L_mk, rd_D_mk, kd_mk, wr_I_mk, cp_mk, gd_true, bd_ret, bd_thr, vl_none, vl_some, iN_add, iN_mul, iN_sub, iN_lt, iN_eq, iN_n, iN_m1, iN_pred, vp_iN, K0_le, nr_b0, nr_b1, m1_lt, lt_m1, iN_ne_m1, m1_ne_iN, not_lt_z, true_and, and_true, and_self, or_true, true_or, or_false, false_or, if_true, if_false, ↓reduceIte, eq_self, up_at, up_a, up_k, cp_c, cp_b, Nat.zero_add, Nat.add_zero, Nat.sub_zero, Nat.le_refl, Nat.add_sub_cancel, fu_at, fu_ne, iN_nz, n10_f, n01_f, ofN, qq_at_100, k110b, Nat.lt_irrefl, Nat.not_lt_zero, ne_eq, not_false_eq_true, not_true_eq_false, k0, r0, r2, q4, b_273_46, b_273_52, thT k0 m70, b_273_54, b_273_58]
      rfl
theorem n_writAt (h : R_N I τ m B C) (x : Int32) : NQ d 275 [.ref m, .int x] I τ m B (qv (q_writAt (g_S C) x)) (qc [3] (q_writAt (g_S C) x)) C := by
  have hL := h.1
  have hR := h.2.1
  have hw := h.2.2.1
  have hR7 : ∀ v, R_F (up_2 I m 7 v (m + 1)) (g_S C) := fun v => R_F_7 hR
  obtain ⟨m70, k0, r0, r1, r2, r3, r4, r5, -, -, -, g1, g2, g3, g4, g5, g6, -⟩ := hL
  have w1 := hw.2.1.1
  have w2 := hw.2.1.2.1
  have w3 := hw.2.2.1.1
  have q1 := c_isIn (d := d + 39) (I := I) (τ := τ) (x := x) (lo := iN 0) (hi := iN (un (s_U (g_S C))) - iN 1)
  rw [inN_eq (by omega)] at q1
  have h10 := hR.2.2.2.2.2.2.2.2.2.2.1
  unfold q_writAt
  cases hx : inN (un (s_U (g_S C))) x with
  | false =>
    rw [hx, b01_f] at q1
    refine ⟨up_2 I m 7 (iN 1), ?_, PN_7 h⟩
    rw [c_275, b_275_0]
    simp (disch := omega) only [rd_I_mk, rd_R_mk, rd_L_mk, rd_D_mk, kd_mk, wr_I_mk, cp_mk, gd_true, bd_ret, bd_thr, vl_none, vl_some, iN_add, iN_mul, iN_lt, iN_eq, iN_n, iN_m1, iN_pred, vp_iN, K0_le, nr_b0, nr_b1, m1_lt, lt_m1, iN_ne_m1, m1_ne_iN, not_lt_z, true_and, and_true, and_self, or_true, true_or, or_false, false_or, if_true, if_false, ↓reduceIte, eq_self, up_at, up_a, up_k, cp_c, cp_b, Nat.zero_add, Nat.add_zero, Nat.sub_zero, Nat.le_refl, Nat.add_sub_cancel, fu_at, fu_ne, iN_nz, n10_f, n01_f, ofN, qq_at_100, k110b, Nat.lt_irrefl, Nat.not_lt_zero, ne_eq, not_false_eq_true, not_true_eq_false, k0, r0, g1, h10, q1, b_275_10, b_275_14, b_275_16, thT k0 m70, b_275_23]
    rfl
  | true =>
    rw [hx, b01_t] at q1
    obtain ⟨j, hj, rfl⟩ := (inN_iff (by omega)).mp hx
    rw [if_pos rfl, tn_iN (by omega)]
    have q2 : CC (d + 39) 216 [.ref m, .int (iN j), .int (iN 0)] (up_2 I m 7 (iN 0), τ) = some (.inl (some (.int (up_2 I m 7 (iN 0) (m + 1) (37 + 6 * j)))), (up_2 I m 7 (iN 0), τ)) := c_of (d := d + 39) (I := up_2 I m 7 (iN 0)) k0 r0 g1 (k := j) (w := 0) (by omega) (by omega)
    rw [((hR7 (iN 0)).2.2.2.2.2.2.2.2.2.2.2.2.2.1 j hj).1] at q2
    refine ⟨up_2 I m 7 (iN 0), ?_, PN_7 h⟩
    rw [c_275, b_275_0]
    simp (disch := omega) only [rd_I_mk, rd_R_mk, rd_L_mk, rd_D_mk, kd_mk, wr_I_mk, cp_mk, gd_true, bd_ret, bd_thr, vl_none, vl_some, iN_add, iN_mul, iN_lt, iN_eq, iN_n, iN_m1, iN_pred, vp_iN, K0_le, nr_b0, nr_b1, m1_lt, lt_m1, iN_ne_m1, m1_ne_iN, not_lt_z, true_and, and_true, and_self, or_true, true_or, or_false, false_or, if_true, if_false, ↓reduceIte, eq_self, up_at, up_a, up_k, cp_c, cp_b, Nat.zero_add, Nat.add_zero, Nat.sub_zero, Nat.le_refl, Nat.add_sub_cancel, fu_at, fu_ne, iN_nz, n10_f, n01_f, ofN, qq_at_100, k110b, Nat.lt_irrefl, Nat.not_lt_zero, ne_eq, not_false_eq_true, not_true_eq_false, k0, r0, g1, h10, q1, b_275_10, b_275_14, b_275_16, thF k0 m70, q2, b_275_23]
    rfl
theorem s_wr (h : R_N I τ m B C) {w : Nat} (hw6 : w < 6) {f : Nat → Int32} (hf : ∀ k, k < un (s_U (g_S C)) → I (m + 1) (37 + 6 * k + w) = f k) (x : Int32) : NR (d + 2) 276 [.ref m, .int x, .int (iN w)] I τ m B (qv (q_wr f (g_S C) x)) (qc [3] (q_wr f (g_S C) x)) C := by
  have hL := h.1
  have hR := h.2.1
  have hw := h.2.2.1
  have hR7 : ∀ v, R_F (up_2 I m 7 v (m + 1)) (g_S C) := fun v => R_F_7 hR
  obtain ⟨m70, k0, r0, r1, r2, r3, r4, r5, -, -, -, g1, g2, g3, g4, g5, g6, -⟩ := hL
  have w1 := hw.2.1.1
  have w2 := hw.2.1.2.1
  have w3 := hw.2.2.1.1
  have q1 := fun v => c_at (d := d) (I := up_2 I m 7 v) h.1 (hR7 v) hw x
  have q0 := c_at (d := d) h.1 hR hw x
  unfold q_wr
  cases hx : fiX (s_U (g_S C)) x with
  | none =>
    rw [hx] at q0
    refine ⟨up_2 I m 7 (iN 1), ?_, PN_7 h⟩
    rw [c_276, b_276_0]
    simp (disch := omega) only [rd_I_mk, rd_R_mk, rd_L_mk, rd_D_mk, kd_mk, wr_I_mk, cp_mk, gd_true, bd_ret, bd_thr, vl_none, vl_some, iN_add, iN_mul, iN_sub, iN_lt, iN_eq, iN_n, iN_m1, iN_pred, vp_iN, K0_le, nr_b0, nr_b1, m1_lt, lt_m1, iN_ne_m1, m1_ne_iN, not_lt_z, true_and, and_true, and_self, or_true, true_or, or_false, false_or, if_true, if_false, ↓reduceIte, eq_self, up_at, up_a, up_k, cp_c, cp_b, Nat.zero_add, Nat.add_zero, Nat.sub_zero, Nat.le_refl, Nat.add_sub_cancel, fu_at, fu_ne, iN_nz, n10_f, n01_f, ofN, qq_at_100, k110b, Nat.lt_irrefl, Nat.not_lt_zero, ne_eq, not_false_eq_true, not_true_eq_false, k0, q0, oN, b_276_4, b_276_8, b_276_10, thT k0 m70, b_276_19]
    rfl
  | some k =>
    rw [hx] at q0 q1
    have hk := fiX_lt hx
    have q2 := c_of (d := d + 1) (I := up_2 I m 7 (iN 0)) k0 r0 g1 (k := k) (w := w) (by omega) hw6
    rw [up_c (by omega), hf k hk] at q2
    refine ⟨up_2 I m 7 (iN 0), ?_, PN_7 h⟩
    rw [c_276, b_276_0]
    simp (disch := omega) only [rd_I_mk, rd_R_mk, rd_L_mk, rd_D_mk, kd_mk, wr_I_mk, cp_mk, gd_true, bd_ret, bd_thr, vl_none, vl_some, iN_add, iN_mul, iN_sub, iN_lt, iN_eq, iN_n, iN_m1, iN_pred, vp_iN, K0_le, nr_b0, nr_b1, m1_lt, lt_m1, iN_ne_m1, m1_ne_iN, not_lt_z, true_and, and_true, and_self, or_true, true_or, or_false, false_or, if_true, if_false, ↓reduceIte, eq_self, up_at, up_a, up_k, cp_c, cp_b, Nat.zero_add, Nat.add_zero, Nat.sub_zero, Nat.le_refl, Nat.add_sub_cancel, fu_at, fu_ne, iN_nz, n10_f, n01_f, ofN, qq_at_100, k110b, Nat.lt_irrefl, Nat.not_lt_zero, ne_eq, not_false_eq_true, not_true_eq_false, k0, q0, q1, oN, b_276_4, b_276_8, b_276_10, thF k0 m70, b_276_17, q2, b_276_19]
    rfl
theorem n_statueOf (h : R_N I τ m B C) (x : Int32) : NQ d 277 [.ref m, .int x] I τ m B (qv (q_wr (fun k => iN (w_of (ug (s_U (g_S C)) k))) (g_S C) x)) (qc [3] (q_wr (fun k => iN (w_of (ug (s_U (g_S C)) k))) (g_S C) x)) C := by
  obtain ⟨I', t1, t2⟩ := s_wr (d := d + 37) h (w := 1) (by omega) (f := fun k => iN (w_of (ug (s_U (g_S C)) k))) (fun k hk => (h.2.1.2.2.2.2.2.2.2.2.2.2.2.2.2.1 k hk).2.1) x
  refine ⟨I', ?_, t2⟩
  have k0 := h.1.2.1
  rw [c_277, b_277_0]
  simp (disch := omega) only [rd_I_mk, rd_R_mk, rd_L_mk, rd_D_mk, kd_mk, wr_I_mk, cp_mk, gd_true, bd_ret, bd_thr, vl_none, vl_some, iN_add, iN_mul, iN_sub, iN_lt, iN_eq, iN_n, iN_m1, iN_pred, vp_iN, K0_le, nr_b0, nr_b1, m1_lt, lt_m1, iN_ne_m1, m1_ne_iN, not_lt_z, true_and, and_true, and_self, or_true, true_or, or_false, false_or, if_true, if_false, ↓reduceIte, eq_self, up_at, up_a, up_k, cp_c, cp_b, Nat.zero_add, Nat.add_zero, Nat.sub_zero, Nat.le_refl, Nat.add_sub_cancel, fu_at, fu_ne, iN_nz, n10_f, n01_f, ofN, qq_at_100, k110b, Nat.lt_irrefl, Nat.not_lt_zero, ne_eq, not_false_eq_true, not_true_eq_false, k0, t1, b_277_4]
theorem n_lastNight (h : R_N I τ m B C) (x : Int32) : NQ d 278 [.ref m, .int x] I τ m B (qv (q_wr (fun k => iN (w_la (ug (s_U (g_S C)) k))) (g_S C) x)) (qc [3] (q_wr (fun k => iN (w_la (ug (s_U (g_S C)) k))) (g_S C) x)) C := by
  obtain ⟨I', t1, t2⟩ := s_wr (d := d + 37) h (w := 2) (by omega) (f := fun k => iN (w_la (ug (s_U (g_S C)) k))) (fun k hk => (h.2.1.2.2.2.2.2.2.2.2.2.2.2.2.2.1 k hk).2.2.1) x
  refine ⟨I', ?_, t2⟩
  have k0 := h.1.2.1
  rw [c_278, b_278_0]
  simp (disch := omega) only [rd_I_mk, rd_R_mk, rd_L_mk, rd_D_mk, kd_mk, wr_I_mk, cp_mk, gd_true, bd_ret, bd_thr, vl_none, vl_some, iN_add, iN_mul, iN_sub, iN_lt, iN_eq, iN_n, iN_m1, iN_pred, vp_iN, K0_le, nr_b0, nr_b1, m1_lt, lt_m1, iN_ne_m1, m1_ne_iN, not_lt_z, true_and, and_true, and_self, or_true, true_or, or_false, false_or, if_true, if_false, ↓reduceIte, eq_self, up_at, up_a, up_k, cp_c, cp_b, Nat.zero_add, Nat.add_zero, Nat.sub_zero, Nat.le_refl, Nat.add_sub_cancel, fu_at, fu_ne, iN_nz, n10_f, n01_f, ofN, qq_at_100, k110b, Nat.lt_irrefl, Nat.not_lt_zero, ne_eq, not_false_eq_true, not_true_eq_false, k0, t1, b_278_4]
theorem n_bail (h : R_N I τ m B C) (x : Int32) : NQ d 279 [.ref m, .int x] I τ m B (qv (q_wr (fun k => iN (w_ba (ug (s_U (g_S C)) k))) (g_S C) x)) (qc [3] (q_wr (fun k => iN (w_ba (ug (s_U (g_S C)) k))) (g_S C) x)) C := by
  obtain ⟨I', t1, t2⟩ := s_wr (d := d + 37) h (w := 3) (by omega) (f := fun k => iN (w_ba (ug (s_U (g_S C)) k))) (fun k hk => (h.2.1.2.2.2.2.2.2.2.2.2.2.2.2.2.1 k hk).2.2.2.1) x
  refine ⟨I', ?_, t2⟩
  have k0 := h.1.2.1
  rw [c_279, b_279_0]
  simp (disch := omega) only [rd_I_mk, rd_R_mk, rd_L_mk, rd_D_mk, kd_mk, wr_I_mk, cp_mk, gd_true, bd_ret, bd_thr, vl_none, vl_some, iN_add, iN_mul, iN_sub, iN_lt, iN_eq, iN_n, iN_m1, iN_pred, vp_iN, K0_le, nr_b0, nr_b1, m1_lt, lt_m1, iN_ne_m1, m1_ne_iN, not_lt_z, true_and, and_true, and_self, or_true, true_or, or_false, false_or, if_true, if_false, ↓reduceIte, eq_self, up_at, up_a, up_k, cp_c, cp_b, Nat.zero_add, Nat.add_zero, Nat.sub_zero, Nat.le_refl, Nat.add_sub_cancel, fu_at, fu_ne, iN_nz, n10_f, n01_f, ofN, qq_at_100, k110b, Nat.lt_irrefl, Nat.not_lt_zero, ne_eq, not_false_eq_true, not_true_eq_false, k0, t1, b_279_4]
theorem n_isPaid (h : R_N I τ m B C) (x : Int32) : NQ d 280 [.ref m, .int x] I τ m B (qv (q_wr (fun k => iN (w_pd (ug (s_U (g_S C)) k))) (g_S C) x)) (qc [3] (q_wr (fun k => iN (w_pd (ug (s_U (g_S C)) k))) (g_S C) x)) C := by
  have hw := h.2.2.1
  obtain ⟨I', t1, t2⟩ := s_wr (d := d + 37) h (w := 4) (by omega) (f := fun k => iN (w_pd (ug (s_U (g_S C)) k))) (fun k hk => (h.2.1.2.2.2.2.2.2.2.2.2.2.2.2.2.1 k hk).2.2.2.2.1) x
  refine ⟨I', ?_, t2⟩
  have k0 := h.1.2.1
  rw [c_280, b_280_0]
  unfold q_wr at t1 ⊢
  cases hx : fiX (s_U (g_S C)) x with
  | none =>
    rw [hx] at t1
    have t1 : CC (d + 39) 276 [.ref m, .int x, .int (iN 4)] (I, τ) = some (.inl (some (.int (iN 0))), (I', τ)) := t1
    simp (disch := omega) only [rd_I_mk, rd_R_mk, rd_L_mk, rd_D_mk, kd_mk, wr_I_mk, cp_mk, gd_true, bd_ret, bd_thr, vl_none, vl_some, iN_add, iN_mul, iN_sub, iN_lt, iN_eq, iN_n, iN_m1, iN_pred, vp_iN, K0_le, nr_b0, nr_b1, m1_lt, lt_m1, iN_ne_m1, m1_ne_iN, not_lt_z, true_and, and_true, and_self, or_true, true_or, or_false, false_or, if_true, if_false, ↓reduceIte, eq_self, up_at, up_a, up_k, cp_c, cp_b, Nat.zero_add, Nat.add_zero, Nat.sub_zero, Nat.le_refl, Nat.add_sub_cancel, fu_at, fu_ne, iN_nz, n10_f, n01_f, ofN, qq_at_100, k110b, Nat.lt_irrefl, Nat.not_lt_zero, ne_eq, not_false_eq_true, not_true_eq_false, k0, t1, b_280_4, b_280_9, nr_b0]
    rfl
  | some k =>
    have hk := fiX_lt hx
    have hp := (hw.2.2.1.2.2.2 k hk).2.2.2.2.1
    rw [hx] at t1
    have t1 : CC (d + 39) 276 [.ref m, .int x, .int (iN 4)] (I, τ) = some (.inl (some (.int (iN (w_pd (ug (s_U (g_S C)) k))))), (I', τ)) := t1
    rcases Nat.le_one_iff_eq_zero_or_eq_one.mp hp with e | e
    · rw [e] at t1
      simp (disch := omega) only [rd_I_mk, rd_R_mk, rd_L_mk, rd_D_mk, kd_mk, wr_I_mk, cp_mk, gd_true, bd_ret, bd_thr, vl_none, vl_some, iN_add, iN_mul, iN_sub, iN_lt, iN_eq, iN_n, iN_m1, iN_pred, vp_iN, K0_le, nr_b0, nr_b1, m1_lt, lt_m1, iN_ne_m1, m1_ne_iN, not_lt_z, true_and, and_true, and_self, or_true, true_or, or_false, false_or, if_true, if_false, ↓reduceIte, eq_self, up_at, up_a, up_k, cp_c, cp_b, Nat.zero_add, Nat.add_zero, Nat.sub_zero, Nat.le_refl, Nat.add_sub_cancel, fu_at, fu_ne, iN_nz, n10_f, n01_f, ofN, qq_at_100, k110b, Nat.lt_irrefl, Nat.not_lt_zero, ne_eq, not_false_eq_true, not_true_eq_false, k0, t1, b_280_4, b_280_9, nr_b0]
      simp only [qv, e]
    · rw [e] at t1
      simp (disch := omega) only [rd_I_mk, rd_R_mk, rd_L_mk, rd_D_mk, kd_mk, wr_I_mk, cp_mk, gd_true, bd_ret, bd_thr, vl_none, vl_some, iN_add, iN_mul, iN_sub, iN_lt, iN_eq, iN_n, iN_m1, iN_pred, vp_iN, K0_le, nr_b0, nr_b1, m1_lt, lt_m1, iN_ne_m1, m1_ne_iN, not_lt_z, true_and, and_true, and_self, or_true, true_or, or_false, false_or, if_true, if_false, ↓reduceIte, eq_self, up_at, up_a, up_k, cp_c, cp_b, Nat.zero_add, Nat.add_zero, Nat.sub_zero, Nat.le_refl, Nat.add_sub_cancel, fu_at, fu_ne, iN_nz, n10_f, n01_f, ofN, qq_at_100, k110b, Nat.lt_irrefl, Nat.not_lt_zero, ne_eq, not_false_eq_true, not_true_eq_false, k0, t1, b_280_4, b_280_9, nr_b1]
      simp only [qv, e]
theorem ca_b {S : sS} (hw : wS B S) {k : Nat} (hk : k < un (s_U S)) : w_ca (ug (s_U S) k) ≤ 900000 := by
  obtain ⟨y1, y2, y3, y4, y5, y6, y7⟩ := hw.2.2.1.2.2.2 k hk
  have w4 := hw.2.2.2.1
  have wb := hw.1
  rcases y7 with y7 | ⟨j, j1, j2⟩
  · omega
  · have := (hw.2.2.1.2.2.2 j (by omega)).1
    omega
theorem PN_77 {n n' : Nat} {I1 : qq_I} (h : PN m I I1 τ B n' C) : PN m I (up_2 I1 m 7 (iN n)) τ B n C :=
  ⟨(PN_7 h.1).1, up_at, fun a ha => by rw [up_c (by omega)]; exact h.2.2 a ha⟩
theorem n_causeOf (h : R_N I τ m B C) (x : Int32) : NQ d 281 [.ref m, .int x] I τ m B (qv (q_cause (g_S C) x)) (qc [3] (q_cause (g_S C) x)) C := by
  have hL := h.1
  have hR := h.2.1
  have hw := h.2.2.1
  have hR7 : ∀ v, R_F (up_2 I m 7 v (m + 1)) (g_S C) := fun v => R_F_7 hR
  obtain ⟨m70, k0, r0, r1, r2, r3, r4, r5, -, -, -, g1, g2, g3, g4, g5, g6, -⟩ := hL
  have w1 := hw.2.1.1
  have w2 := hw.2.1.2.1
  have w3 := hw.2.2.1.1
  obtain ⟨I', t1, t2⟩ := s_wr (d := d + 37) h (w := 5) (by omega) (f := fun k => iN (w_ca (ug (s_U (g_S C)) k))) (fun k hk => (hR.2.2.2.2.2.2.2.2.2.2.2.2.2.1 k hk).2.2.2.2.2) x
  unfold q_wr at t1
  unfold q_cause
  cases hx : fiX (s_U (g_S C)) x with
  | none =>
    rw [hx] at t1
    have t1 : CC (d + 39) 276 [.ref m, .int x, .int (iN 5)] (I, τ) = some (.inl (some (.int (iN 0))), (I', τ)) := t1
    refine ⟨up_2 I' m 7 (iN 1), ?_, PN_77 t2⟩
    rw [c_281, b_281_0]
    simp (disch := omega) only [rd_I_mk, rd_R_mk, rd_L_mk, rd_D_mk, kd_mk, wr_I_mk, cp_mk, gd_true, bd_ret, bd_thr, vl_none, vl_some, iN_add, iN_mul, iN_sub, iN_lt, iN_eq, iN_n, iN_m1, iN_pred, vp_iN, K0_le, nr_b0, nr_b1, m1_lt, lt_m1, iN_ne_m1, m1_ne_iN, not_lt_z, true_and, and_true, and_self, or_true, true_or, or_false, false_or, if_true, if_false, ↓reduceIte, eq_self, up_at, up_a, up_k, cp_c, cp_b, Nat.zero_add, Nat.add_zero, Nat.sub_zero, Nat.le_refl, Nat.add_sub_cancel, fu_at, fu_ne, iN_nz, n10_f, n01_f, ofN, qq_at_100, k110b, Nat.lt_irrefl, Nat.not_lt_zero, ne_eq, not_false_eq_true, not_true_eq_false, k0, t1, b_281_4, b_281_11, thT k0 m70, b_281_13, b_281_19]
    rfl
  | some k =>
    have hk := fiX_lt hx
    have hc := ca_b hw hk
    rw [hx] at t1
    have t1 : CC (d + 39) 276 [.ref m, .int x, .int (iN 5)] (I, τ) = some (.inl (some (.int (iN (w_ca (ug (s_U (g_S C)) k))))), (I', τ)) := t1
    dsimp only
    by_cases z : w_ca (ug (s_U (g_S C)) k) = 0
    · rw [z] at t1
      rw [if_pos z]
      refine ⟨up_2 I' m 7 (iN 1), ?_, PN_77 t2⟩
      rw [c_281, b_281_0]
      simp (disch := omega) only [rd_I_mk, rd_R_mk, rd_L_mk, rd_D_mk, kd_mk, wr_I_mk, cp_mk, gd_true, bd_ret, bd_thr, vl_none, vl_some, iN_add, iN_mul, iN_sub, iN_lt, iN_eq, iN_n, iN_m1, iN_pred, vp_iN, K0_le, nr_b0, nr_b1, m1_lt, lt_m1, iN_ne_m1, m1_ne_iN, not_lt_z, true_and, and_true, and_self, or_true, true_or, or_false, false_or, if_true, if_false, ↓reduceIte, eq_self, up_at, up_a, up_k, cp_c, cp_b, Nat.zero_add, Nat.add_zero, Nat.sub_zero, Nat.le_refl, Nat.add_sub_cancel, fu_at, fu_ne, iN_nz, n10_f, n01_f, ofN, qq_at_100, k110b, Nat.lt_irrefl, Nat.not_lt_zero, ne_eq, not_false_eq_true, not_true_eq_false, k0, t1, b_281_4, b_281_11, thT k0 m70, b_281_13, b_281_19]
      rfl
    · rw [if_neg z]
      refine ⟨up_2 I' m 7 (iN 0), ?_, PN_77 t2⟩
      have e : (iN (w_ca (ug (s_U (g_S C)) k)) = iN 0) = False := (iN_eq (by omega) (by omega)).trans (eq_false z)
      rw [c_281, b_281_0]
      simp (disch := omega) only [rd_I_mk, rd_R_mk, rd_L_mk, rd_D_mk, kd_mk, wr_I_mk, cp_mk, gd_true, bd_ret, bd_thr, vl_none, vl_some, iN_add, iN_mul, iN_sub, iN_lt, iN_eq, iN_n, iN_m1, iN_pred, vp_iN, K0_le, nr_b0, nr_b1, m1_lt, lt_m1, iN_ne_m1, m1_ne_iN, not_lt_z, true_and, and_true, and_self, or_true, true_or, or_false, false_or, if_true, if_false, ↓reduceIte, eq_self, up_at, up_a, up_k, cp_c, cp_b, Nat.zero_add, Nat.add_zero, Nat.sub_zero, Nat.le_refl, Nat.add_sub_cancel, fu_at, fu_ne, iN_nz, n10_f, n01_f, ofN, qq_at_100, k110b, Nat.lt_irrefl, Nat.not_lt_zero, ne_eq, not_false_eq_true, not_true_eq_false, k0, t1, b_281_4, e, b_281_11, thF k0 m70, b_281_13, b_281_19]
      rfl
theorem c_depth {S : sS} (hL : L_N τ m) (hR : R_F (I (m + 1)) S) (hw : wS B S) (x1 : Int32) : ∀ k n r, k < un (s_U S) → k ≤ n → r + k < 100 → RR (d + 2) 282 17 [some (.ref m), some (.int x1), some (.int (iN k)), some (.int (iN r))] [] (I, τ) = some (.inl (some (.int (iN (r + dpU (s_U S) n k)))), (I, τ)) := by
  have hL0 := hL
  obtain ⟨m70, k0, r0, r1, r2, r3, r4, r5, -, -, -, g1, -⟩ := hL
  have w3 := hw.2.2.1.1
  intro k
  induction k using Nat.strongRecOn with
  | ind k ih =>
    intro n r hk hkn hr
    have hc := ca_b hw hk
    have q5 := c_of (d := d + 1) (I := I) k0 r0 g1 (k := k) (w := 5) (by omega) (by omega)
    rw [(hR.2.2.2.2.2.2.2.2.2.2.2.2.2.1 k hk).2.2.2.2.2] at q5
    rw [b_282_17]
    by_cases z : w_ca (ug (s_U S) k) = 0
    · rw [z] at q5
      have hp := (pa_none hw.2.2.1 hk).mpr z
      have e0 : dpU (s_U S) n k = 0 := by
        cases n with
        | zero => rfl
        | succ n => rw [dpU, hp]
      rw [e0]
      simp (disch := omega) only [rd_I_mk, rd_R_mk, rd_L_mk, rd_D_mk, kd_mk, wr_I_mk, cp_mk, gd_true, bd_ret, bd_thr, vl_none, vl_some, iN_add, iN_mul, iN_sub, iN_lt, iN_eq, iN_n, iN_m1, iN_pred, vp_iN, K0_le, nr_b0, nr_b1, m1_lt, lt_m1, iN_ne_m1, m1_ne_iN, not_lt_z, true_and, and_true, and_self, or_true, true_or, or_false, false_or, if_true, if_false, ↓reduceIte, eq_self, up_at, up_a, up_k, cp_c, cp_b, Nat.zero_add, Nat.add_zero, Nat.sub_zero, Nat.le_refl, Nat.add_sub_cancel, fu_at, fu_ne, iN_nz, n10_f, n01_f, ofN, qq_at_100, k110b, Nat.lt_irrefl, Nat.not_lt_zero, ne_eq, not_false_eq_true, not_true_eq_false, k0, q5, b_282_21, Nat.lt_irrefl]
    · have hpx := fiX_ca hw.2.2.1 hk
      obtain ⟨j, hj, hca⟩ := ((hw.2.2.1.2.2.2 k hk).2.2.2.2.2.2).resolve_left z
      have hp : pa (s_U S) k = some j := (pa_iff hw.2.2.1 hk).mpr ⟨by omega, hca⟩
      have hjid := (hw.2.2.1.2.2.2 j (by omega)).1
      have hat := c_at (d := d) hL0 hR hw (iN (w_id (ug (s_U S) j)))
      have hfx : fiX (s_U S) (iN (w_id (ug (s_U S) j))) = some j := by rw [fiX_iN hw.2.2.1 (by omega)]; exact fi_at hw.2.2.1 (by omega)
      rw [hfx] at hat
      have hat : CC (d + 1) 220 [.ref m, .int (iN (w_id (ug (s_U S) j)))] (I, τ) = some (.inl (some (.int (iN j))), (I, τ)) := hat
      rw [hca] at q5
      obtain ⟨n', rfl⟩ : ∃ n', n = n' + 1 := ⟨n - 1, by omega⟩
      have e0 : dpU (s_U S) (n' + 1) k = dpU (s_U S) n' j + 1 := by rw [dpU, hp]
      have e1 : (iN 0 < iN (w_id (ug (s_U S) j) + 1)) = True := (iN_lt (by omega) (by omega)).trans (eq_true (Nat.succ_pos _))
      have hsub : iN (w_id (ug (s_U S) j) + 1) - iN 1 = iN (w_id (ug (s_U S) j)) := iN_sub (by omega)
      have t := ih j hj n' (r + 1) (by omega) (by omega) (by omega)
      have e2 : r + dpU (s_U S) (n' + 1) k = r + 1 + dpU (s_U S) n' j := by omega
      rw [e2]
      simp only [kd_mk, k0, gd_true, q5, bd_ret, vl_some, vl_none, b_282_21, e1, if_true, b_282_27, hsub, hat, b_282_30, iN_add]
      exact t
theorem n_causeDepth (h : R_N I τ m B C) (x : Int32) : NQ d 282 [.ref m, .int x] I τ m B (qv (q_wr (fun k => iN (dpU (s_U (g_S C)) 8 k)) (g_S C) x)) (qc [3] (q_wr (fun k => iN (dpU (s_U (g_S C)) 8 k)) (g_S C) x)) C := by
  have hL := h.1
  have hR := h.2.1
  have hw := h.2.2.1
  have hR7 : ∀ v, R_F (up_2 I m 7 v (m + 1)) (g_S C) := fun v => R_F_7 hR
  obtain ⟨m70, k0, r0, r1, r2, r3, r4, r5, -, -, -, g1, g2, g3, g4, g5, g6, -⟩ := hL
  have w1 := hw.2.1.1
  have w2 := hw.2.1.2.1
  have w3 := hw.2.2.1.1
  have q0 := c_at (d := d + 38) h.1 hR hw x
  unfold q_wr
  cases hx : fiX (s_U (g_S C)) x with
  | none =>
    rw [hx] at q0
    refine ⟨up_2 I m 7 (iN 1), ?_, PN_7 h⟩
    rw [c_282, b_282_0]
    simp (disch := omega) only [rd_I_mk, rd_R_mk, rd_L_mk, rd_D_mk, kd_mk, wr_I_mk, cp_mk, gd_true, bd_ret, bd_thr, vl_none, vl_some, iN_add, iN_mul, iN_sub, iN_lt, iN_eq, iN_n, iN_m1, iN_pred, vp_iN, K0_le, nr_b0, nr_b1, m1_lt, lt_m1, iN_ne_m1, m1_ne_iN, not_lt_z, true_and, and_true, and_self, or_true, true_or, or_false, false_or, if_true, if_false, ↓reduceIte, eq_self, up_at, up_a, up_k, cp_c, cp_b, Nat.zero_add, Nat.add_zero, Nat.sub_zero, Nat.le_refl, Nat.add_sub_cancel, fu_at, fu_ne, iN_nz, n10_f, n01_f, ofN, qq_at_100, k110b, Nat.lt_irrefl, Nat.not_lt_zero, ne_eq, not_false_eq_true, not_true_eq_false, k0, q0, oN, b_282_3, b_282_10, b_282_12, thT k0 m70]
    rfl
  | some k =>
    rw [hx] at q0
    have hk := fiX_lt hx
    have t := c_depth (d := d + 38) h.1 (hR7 (iN 0)) hw x k 8 0 hk (by omega) (by omega)
    rw [Nat.zero_add] at t
    refine ⟨up_2 I m 7 (iN 0), ?_, PN_7 h⟩
    rw [c_282, b_282_0]
    simp (disch := omega) only [rd_I_mk, rd_R_mk, rd_L_mk, rd_D_mk, kd_mk, wr_I_mk, cp_mk, gd_true, bd_ret, bd_thr, vl_none, vl_some, iN_add, iN_mul, iN_sub, iN_lt, iN_eq, iN_n, iN_m1, iN_pred, vp_iN, K0_le, nr_b0, nr_b1, m1_lt, lt_m1, iN_ne_m1, m1_ne_iN, not_lt_z, true_and, and_true, and_self, or_true, true_or, or_false, false_or, if_true, if_false, ↓reduceIte, eq_self, up_at, up_a, up_k, cp_c, cp_b, Nat.zero_add, Nat.add_zero, Nat.sub_zero, Nat.le_refl, Nat.add_sub_cancel, fu_at, fu_ne, iN_nz, n10_f, n01_f, ofN, qq_at_100, k110b, Nat.lt_irrefl, Nat.not_lt_zero, ne_eq, not_false_eq_true, not_true_eq_false, k0, q0, oN, b_282_3, b_282_10, b_282_12, thF k0 m70]
    exact t
theorem n_followers (h : R_N I τ m B C) (x : Int32) : NQ d 283 [.ref m, .int x] I τ m B (qv (q_wr (fun k => iN (cn (beU (s_U (g_S C)) k 8) (un (s_U (g_S C)))) - iN 1) (g_S C) x)) (qc [3] (q_wr (fun k => iN (cn (beU (s_U (g_S C)) k 8) (un (s_U (g_S C)))) - iN 1) (g_S C) x)) C := by
  have hL := h.1
  have hR := h.2.1
  have hw := h.2.2.1
  have hR7 : ∀ v, R_F (up_2 I m 7 v (m + 1)) (g_S C) := fun v => R_F_7 hR
  obtain ⟨m70, k0, r0, r1, r2, r3, r4, r5, -, -, -, g1, g2, g3, g4, g5, g6, -⟩ := hL
  have w1 := hw.2.1.1
  have w2 := hw.2.1.2.1
  have w3 := hw.2.2.1.1
  have q0 := c_at (d := d + 38) h.1 hR hw x
  unfold q_wr
  cases hx : fiX (s_U (g_S C)) x with
  | none =>
    rw [hx] at q0
    refine ⟨up_2 I m 7 (iN 1), ?_, PN_7 h⟩
    rw [c_283, b_283_0]
    simp (disch := omega) only [rd_I_mk, rd_R_mk, rd_L_mk, rd_D_mk, kd_mk, wr_I_mk, cp_mk, gd_true, bd_ret, bd_thr, vl_none, vl_some, iN_add, iN_mul, iN_sub, iN_lt, iN_eq, iN_n, iN_m1, iN_pred, vp_iN, K0_le, nr_b0, nr_b1, m1_lt, lt_m1, iN_ne_m1, m1_ne_iN, not_lt_z, true_and, and_true, and_self, or_true, true_or, or_false, false_or, if_true, if_false, ↓reduceIte, eq_self, up_at, up_a, up_k, cp_c, cp_b, Nat.zero_add, Nat.add_zero, Nat.sub_zero, Nat.le_refl, Nat.add_sub_cancel, fu_at, fu_ne, iN_nz, n10_f, n01_f, ofN, qq_at_100, k110b, Nat.lt_irrefl, Nat.not_lt_zero, ne_eq, not_false_eq_true, not_true_eq_false, k0, q0, oN, b_283_4, b_283_8, b_283_10, thT k0 m70, b_283_16]
    rfl
  | some k =>
    rw [hx] at q0
    have hk := fiX_lt hx
    have hxe : x = iN (w_id (ug (s_U (g_S C)) k)) := (beq_iff_eq.mp (ff_some _ _ _ hx).2.2.1).symm
    have q2 := c_behind (d := d + 36) h.1 (hR7 (iN 0)) hw hk
    have e2 : iN (cn (beU (s_U (g_S C)) k 8) (un (s_U (g_S C)))) - iN 1 = iN (cn (fun i => bhU (s_U (g_S C)) k 8 i) (un (s_U (g_S C)))) := by
      have := cn_behind hw.2.2.1 hk
      have this : cn (beU (s_U (g_S C)) k 8) (un (s_U (g_S C))) = cn (fun i => bhU (s_U (g_S C)) k 8 i) (un (s_U (g_S C))) + 1 := this
      rw [this, iN_sub (by omega)]
      rfl
    rw [← hxe] at q2
    refine ⟨up_2 I m 7 (iN 0), ?_, PN_7 h⟩
    rw [c_283, b_283_0]
    show _ = some (Sum.inl (some (Value.int (iN (cn (beU (s_U (g_S C)) k 8) (un (s_U (g_S C)))) - iN 1))), (up_2 I m 7 (iN 0), τ))
    rw [e2]
    simp (disch := omega) only [rd_I_mk, rd_R_mk, rd_L_mk, rd_D_mk, kd_mk, wr_I_mk, cp_mk, gd_true, bd_ret, bd_thr, vl_none, vl_some, iN_add, iN_mul, iN_sub, iN_lt, iN_eq, iN_n, iN_m1, iN_pred, vp_iN, K0_le, nr_b0, nr_b1, m1_lt, lt_m1, iN_ne_m1, m1_ne_iN, not_lt_z, true_and, and_true, and_self, or_true, true_or, or_false, false_or, if_true, if_false, ↓reduceIte, eq_self, up_at, up_a, up_k, cp_c, cp_b, Nat.zero_add, Nat.add_zero, Nat.sub_zero, Nat.le_refl, Nat.add_sub_cancel, fu_at, fu_ne, iN_nz, n10_f, n01_f, ofN, qq_at_100, k110b, Nat.lt_irrefl, Nat.not_lt_zero, ne_eq, not_false_eq_true, not_true_eq_false, k0, q0, oN, b_283_4, b_283_8, b_283_10, thF k0 m70, q2, b_283_16]
end MQ3
