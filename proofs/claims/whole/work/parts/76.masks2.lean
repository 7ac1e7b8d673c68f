/-! THE MODEL: what it is asked (two) -/
theorem hf_lt {P : sP} (hw : wP P) {r : Nat} (hr : r < p_ns P) : (p_hf P).getD r 0 < p_ns P := by
  obtain ⟨-, -, -, -, -, hp, -⟩ := hw
  have hl : (p_hf P).length = p_ns P := by rw [hp.length_eq, List.length_range]
  have hr2 : r < (p_hf P).length := by omega
  have : (p_hf P)[r] ∈ List.range (p_ns P) := hp.mem_iff.mp (List.getElem_mem hr2)
  rw [getD_lt hr2]
  exact List.mem_range.mp this
theorem it_s2 (g : Nat → Nat) (r : Nat) {y : Nat} (h : it g r y = y) : ∀ k, it g (r * k) y = y := by
  intro k
  induction k with
  | zero => rfl
  | succ k ih => rw [Nat.mul_succ, it_add, h, ih]
theorem it_comm (g : Nat → Nat) (a b z : Nat) : it g a (it g b z) = it g b (it g a z) := by rw [← it_add, ← it_add, Nat.add_comm]
/-- rounds are as long from eight steps on -/
theorem rl8 {P : sP} (hw : wP P) {x : Nat} (hx : x < p_np P) : ∀ L, it (p_ar P) L (it (p_ar P) 8 x) = it (p_ar P) 8 x ↔ it (p_ar P) L (it (p_ar P) (p_np P) x) = it (p_ar P) (p_np P) x := by
  intro L
  obtain ⟨r1, r2, r3, r4⟩ := rlen_ok hw hx
  have w1 := hw.1
  have e : it (p_ar P) 8 x = it (p_ar P) (8 - p_np P) (it (p_ar P) (p_np P) x) := by rw [← it_add]; congr 1; omega
  rw [e]
  generalize it (p_ar P) (p_np P) x = y at *
  generalize p_ar P = g at *
  generalize hk : 8 - p_np P = k at *
  have hk8 : k ≤ 8 := by omega
  generalize rlen P x = r at *
  constructor
  · intro h
    have hb : it g (r * 8 - k) (it g k y) = y := by
      rw [← it_add]
      have : k + (r * 8 - k) = r * 8 := by omega
      have e2 : r * 8 - k + k = r * 8 := by omega
      first | rw [this] | rw [e2]
      exact it_s2 g r r3 8
    have hc : it g (r * 8 - k) (it g L (it g k y)) = it g L (it g (r * 8 - k) (it g k y)) := it_comm g _ _ _
    rw [h, hb] at hc
    exact hc.symm
  · intro h
    rw [← it_add, Nat.add_comm, it_add, h]
section MQ2
variable {d : Nat} {I : qq_I} {τ : qq_R} {m B : Nat} {C : sC}
theorem c_round8 {S : sS} (hL : L_N τ m) (hR : R_F (I (m + 1)) S) (hw : wS B S) {x : Nat} (hx : x < p_np (s_P S)) (x1 : Int32) : RR (d + 1) 263 20 [some (.ref m), some (.int x1), some (.int (iN (it (p_ar (s_P S)) 8 x))), some (.int (iN 1))] [] (I, τ) = some (.inl (some (.int (iN (rlen (s_P S) x)))), (I, τ)) := by
  obtain ⟨r1, r2, r3, r4⟩ := rlen_ok hw.2.1 hx
  have w1 := hw.2.1.1
  have h8 : it (p_ar (s_P S)) 8 x < p_np (s_P S) := it_lt hw.2.1.2.2.1 8 x hx
  have k0 := hL.2.1
  have lp : ∀ q L, L + q = rlen (s_P S) x → 1 ≤ L → RR (d + 1) 263 20 [some (.ref m), some (.int x1), some (.int (iN (it (p_ar (s_P S)) 8 x))), some (.int (iN L))] [] (I, τ) = some (.inl (some (.int (iN (rlen (s_P S) x)))), (I, τ)) := by
    intro q
    induction q with
    | zero =>
      intro L hL2 h1
      have hL2 : L = rlen (s_P S) x := hL2
      subst hL2
      have q1 := c_after (d := d) hL hR hw h8 (n := rlen (s_P S) x) (by omega)
      rw [(rl8 hw.2.1 hx _).mpr r3] at q1
      rw [b_263_20]
      simp (disch := omega) only [rd_I_mk, rd_R_mk, rd_L_mk, rd_D_mk, kd_mk, wr_I_mk, cp_mk, gd_true, bd_ret, bd_thr, vl_none, vl_some, iN_add, iN_mul, iN_sub, iN_lt, iN_eq, iN_n, iN_m1, iN_pred, vp_iN, K0_le, nr_b0, nr_b1, m1_lt, lt_m1, iN_ne_m1, m1_ne_iN, not_lt_z, true_and, and_true, and_self, or_true, true_or, or_false, false_or, if_true, if_false, ↓reduceIte, eq_self, up_at, up_a, up_k, cp_c, cp_b, Nat.zero_add, Nat.add_zero, Nat.sub_zero, Nat.le_refl, Nat.add_sub_cancel, fu_at, fu_ne, iN_nz, n10_f, n01_f, ofN, qq_at_100, k110b, Nat.lt_irrefl, Nat.not_lt_zero, ne_eq, not_false_eq_true, not_true_eq_false, k0, q1, b_263_24]
    | succ q ih =>
      intro L hL2 h1
      have q1 := c_after (d := d) hL hR hw h8 (n := L) (by omega)
      have hne : ¬ it (p_ar (s_P S)) L (it (p_ar (s_P S)) 8 x) = it (p_ar (s_P S)) 8 x := fun z => r4 L h1 (by omega) ((rl8 hw.2.1 hx L).mp z)
      have hlt : it (p_ar (s_P S)) L (it (p_ar (s_P S)) 8 x) < p_np (s_P S) := it_lt hw.2.1.2.2.1 L _ h8
      have e : (iN (it (p_ar (s_P S)) L (it (p_ar (s_P S)) 8 x)) = iN (it (p_ar (s_P S)) 8 x)) = False := (iN_eq (by omega) (by omega)).trans (eq_false hne)
      have t := ih (L + 1) (by omega) (by omega)
      rw [b_263_20]
      simp (disch := omega) only [rd_I_mk, rd_R_mk, rd_L_mk, rd_D_mk, kd_mk, wr_I_mk, cp_mk, gd_true, bd_ret, bd_thr, vl_none, vl_some, iN_add, iN_mul, iN_sub, iN_lt, iN_eq, iN_n, iN_m1, iN_pred, vp_iN, K0_le, nr_b0, nr_b1, m1_lt, lt_m1, iN_ne_m1, m1_ne_iN, not_lt_z, true_and, and_true, and_self, or_true, true_or, or_false, false_or, if_true, if_false, ↓reduceIte, eq_self, up_at, up_a, up_k, cp_c, cp_b, Nat.zero_add, Nat.add_zero, Nat.sub_zero, Nat.le_refl, Nat.add_sub_cancel, fu_at, fu_ne, iN_nz, n10_f, n01_f, ofN, qq_at_100, k110b, Nat.lt_irrefl, Nat.not_lt_zero, ne_eq, not_false_eq_true, not_true_eq_false, k0, q1, b_263_24, e]
      exact t
  exact lp (rlen (s_P S) x - 1) 1 (by omega) (Nat.le_refl _)
theorem n_round (h : R_N I τ m B C) (x : Int32) : NQ d 263 [.ref m, .int x] I τ m B (qv (q_round (g_S C) x)) (qc [0] (q_round (g_S C) x)) C := by
  have hL := h.1
  have hR := h.2.1
  have hw := h.2.2.1
  have hR7 : ∀ v, R_F (up_2 I m 7 v (m + 1)) (g_S C) := fun v => R_F_7 hR
  obtain ⟨m70, k0, r0, r1, r2, r3, r4, r5, -, -, -, g1, g2, g3, g4, g5, g6, -⟩ := hL
  have w1 := hw.2.1.1
  have w2 := hw.2.1.2.1
  have w3 := hw.2.2.1.1
  have q1 := c_isPedestal (d := d + 38) h.1 hR hw x
  unfold q_round
  cases hx : inN (p_np (s_P (g_S C))) x with
  | false =>
    rw [hx, b01_f] at q1
    refine ⟨up_2 I m 7 (iN 1), ?_, PN_7 h⟩
    rw [c_263, b_263_0]
    simp (disch := omega) only [rd_I_mk, rd_R_mk, rd_L_mk, rd_D_mk, kd_mk, wr_I_mk, cp_mk, gd_true, bd_ret, bd_thr, vl_none, vl_some, iN_add, iN_mul, iN_sub, iN_lt, iN_eq, iN_n, iN_m1, iN_pred, vp_iN, K0_le, nr_b0, nr_b1, m1_lt, lt_m1, iN_ne_m1, m1_ne_iN, not_lt_z, true_and, and_true, and_self, or_true, true_or, or_false, false_or, if_true, if_false, ↓reduceIte, eq_self, up_at, up_a, up_k, cp_c, cp_b, Nat.zero_add, Nat.add_zero, Nat.sub_zero, Nat.le_refl, Nat.add_sub_cancel, fu_at, fu_ne, iN_nz, n10_f, n01_f, ofN, qq_at_100, k110b, Nat.lt_irrefl, Nat.not_lt_zero, ne_eq, not_false_eq_true, not_true_eq_false, k0, q1, b_263_4, b_263_8, b_263_10, thT k0 m70]
    rfl
  | true =>
    rw [hx, b01_t] at q1
    obtain ⟨j, hj, rfl⟩ := (inN_iff (by omega)).mp hx
    rw [if_pos rfl, tn_iN (by omega)]
    have q3 := c_after (d := d + 39) h.1 (hR7 (iN 0)) hw hj (n := 8) (by omega)
    have q4 := c_round8 (d := d + 39) h.1 (hR7 (iN 0)) hw hj (iN j)
    refine ⟨up_2 I m 7 (iN 0), ?_, PN_7 h⟩
    rw [c_263, b_263_0]
    simp (disch := omega) only [rd_I_mk, rd_R_mk, rd_L_mk, rd_D_mk, kd_mk, wr_I_mk, cp_mk, gd_true, bd_ret, bd_thr, vl_none, vl_some, iN_add, iN_mul, iN_sub, iN_lt, iN_eq, iN_n, iN_m1, iN_pred, vp_iN, K0_le, nr_b0, nr_b1, m1_lt, lt_m1, iN_ne_m1, m1_ne_iN, not_lt_z, true_and, and_true, and_self, or_true, true_or, or_false, false_or, if_true, if_false, ↓reduceIte, eq_self, up_at, up_a, up_k, cp_c, cp_b, Nat.zero_add, Nat.add_zero, Nat.sub_zero, Nat.le_refl, Nat.add_sub_cancel, fu_at, fu_ne, iN_nz, n10_f, n01_f, ofN, qq_at_100, k110b, Nat.lt_irrefl, Nat.not_lt_zero, ne_eq, not_false_eq_true, not_true_eq_false, k0, q1, b_263_4, b_263_8, b_263_10, thF k0 m70, q3, b_263_17]
    exact q4
theorem s_sta (h : R_N I τ m B C) {w : Nat} (hw3 : w < 3) {f : Nat → Int32} (hf : ∀ k, k < p_ns (s_P (g_S C)) → I (m + 1) (19 + 3 * k + w) = f k) (x : Int32) : NR (d + 2) 265 [.ref m, .int x, .int (iN w)] I τ m B (qv (q_sta f (g_S C) x)) (qc [0] (q_sta f (g_S C) x)) C := by
  have hL := h.1
  have hR := h.2.1
  have hw := h.2.2.1
  have hR7 : ∀ v, R_F (up_2 I m 7 v (m + 1)) (g_S C) := fun v => R_F_7 hR
  obtain ⟨m70, k0, r0, r1, r2, r3, r4, r5, -, -, -, g1, g2, g3, g4, g5, g6, -⟩ := hL
  have w1 := hw.2.1.1
  have w2 := hw.2.1.2.1
  have w3 := hw.2.2.1.1
  have q1 := c_isStatue (d := d) h.1 hR hw x
  unfold q_sta
  cases hx : inN (p_ns (s_P (g_S C))) x with
  | false =>
    rw [hx, b01_f] at q1
    refine ⟨up_2 I m 7 (iN 1), ?_, PN_7 h⟩
    rw [c_265, b_265_0]
    simp (disch := omega) only [rd_I_mk, rd_R_mk, rd_L_mk, rd_D_mk, kd_mk, wr_I_mk, cp_mk, gd_true, bd_ret, bd_thr, vl_none, vl_some, iN_add, iN_mul, iN_sub, iN_lt, iN_eq, iN_n, iN_m1, iN_pred, vp_iN, K0_le, nr_b0, nr_b1, m1_lt, lt_m1, iN_ne_m1, m1_ne_iN, not_lt_z, true_and, and_true, and_self, or_true, true_or, or_false, false_or, if_true, if_false, ↓reduceIte, eq_self, up_at, up_a, up_k, cp_c, cp_b, Nat.zero_add, Nat.add_zero, Nat.sub_zero, Nat.le_refl, Nat.add_sub_cancel, fu_at, fu_ne, iN_nz, n10_f, n01_f, ofN, qq_at_100, k110b, Nat.lt_irrefl, Nat.not_lt_zero, ne_eq, not_false_eq_true, not_true_eq_false, k0, q1, b_265_4, b_265_8, b_265_10, thT k0 m70, b_265_17]
    rfl
  | true =>
    rw [hx, b01_t] at q1
    obtain ⟨j, hj, rfl⟩ := (inN_iff (by omega)).mp hx
    rw [if_pos rfl, tn_iN (by omega)]
    have q2 := c_ofStatue (d := d + 1) (I := up_2 I m 7 (iN 0)) k0 r0 g1 (k := j) (w := w) (by omega) hw3
    rw [up_c (by omega), hf j hj] at q2
    refine ⟨up_2 I m 7 (iN 0), ?_, PN_7 h⟩
    rw [c_265, b_265_0]
    simp (disch := omega) only [rd_I_mk, rd_R_mk, rd_L_mk, rd_D_mk, kd_mk, wr_I_mk, cp_mk, gd_true, bd_ret, bd_thr, vl_none, vl_some, iN_add, iN_mul, iN_sub, iN_lt, iN_eq, iN_n, iN_m1, iN_pred, vp_iN, K0_le, nr_b0, nr_b1, m1_lt, lt_m1, iN_ne_m1, m1_ne_iN, not_lt_z, true_and, and_true, and_self, or_true, true_or, or_false, false_or, if_true, if_false, ↓reduceIte, eq_self, up_at, up_a, up_k, cp_c, cp_b, Nat.zero_add, Nat.add_zero, Nat.sub_zero, Nat.le_refl, Nat.add_sub_cancel, fu_at, fu_ne, iN_nz, n10_f, n01_f, ofN, qq_at_100, k110b, Nat.lt_irrefl, Nat.not_lt_zero, ne_eq, not_false_eq_true, not_true_eq_false, k0, q1, b_265_4, b_265_8, b_265_10, thF k0 m70, q2, b_265_17]
    rfl
theorem n_place (h : R_N I τ m B C) (x : Int32) : NQ d 266 [.ref m, .int x] I τ m B (qv (q_sta (fun k => iN (p_pl (s_P (g_S C)) k)) (g_S C) x)) (qc [0] (q_sta (fun k => iN (p_pl (s_P (g_S C)) k)) (g_S C) x)) C := by
  obtain ⟨I', t1, t2⟩ := s_sta (d := d + 37) h (w := 0) (by omega) (f := fun k => iN (p_pl (s_P (g_S C)) k)) (fun k hk => (h.2.1.2.2.2.2.2.2.2.2.2.2.2.2.1 k hk).1) x
  refine ⟨I', ?_, t2⟩
  have k0 := h.1.2.1
  rw [c_266, b_266_0]
  simp (disch := omega) only [rd_I_mk, rd_R_mk, rd_L_mk, rd_D_mk, kd_mk, wr_I_mk, cp_mk, gd_true, bd_ret, bd_thr, vl_none, vl_some, iN_add, iN_mul, iN_sub, iN_lt, iN_eq, iN_n, iN_m1, iN_pred, vp_iN, K0_le, nr_b0, nr_b1, m1_lt, lt_m1, iN_ne_m1, m1_ne_iN, not_lt_z, true_and, and_true, and_self, or_true, true_or, or_false, false_or, if_true, if_false, ↓reduceIte, eq_self, up_at, up_a, up_k, cp_c, cp_b, Nat.zero_add, Nat.add_zero, Nat.sub_zero, Nat.le_refl, Nat.add_sub_cancel, fu_at, fu_ne, iN_nz, n10_f, n01_f, ofN, qq_at_100, k110b, Nat.lt_irrefl, Nat.not_lt_zero, ne_eq, not_false_eq_true, not_true_eq_false, k0, t1, b_266_4]
theorem n_home (h : R_N I τ m B C) (x : Int32) : NQ d 267 [.ref m, .int x] I τ m B (qv (q_sta (fun k => iN (p_ho (s_P (g_S C)) k)) (g_S C) x)) (qc [0] (q_sta (fun k => iN (p_ho (s_P (g_S C)) k)) (g_S C) x)) C := by
  obtain ⟨I', t1, t2⟩ := s_sta (d := d + 37) h (w := 1) (by omega) (f := fun k => iN (p_ho (s_P (g_S C)) k)) (fun k hk => (h.2.1.2.2.2.2.2.2.2.2.2.2.2.2.1 k hk).2.1) x
  refine ⟨I', ?_, t2⟩
  have k0 := h.1.2.1
  rw [c_267, b_267_0]
  simp (disch := omega) only [rd_I_mk, rd_R_mk, rd_L_mk, rd_D_mk, kd_mk, wr_I_mk, cp_mk, gd_true, bd_ret, bd_thr, vl_none, vl_some, iN_add, iN_mul, iN_sub, iN_lt, iN_eq, iN_n, iN_m1, iN_pred, vp_iN, K0_le, nr_b0, nr_b1, m1_lt, lt_m1, iN_ne_m1, m1_ne_iN, not_lt_z, true_and, and_true, and_self, or_true, true_or, or_false, false_or, if_true, if_false, ↓reduceIte, eq_self, up_at, up_a, up_k, cp_c, cp_b, Nat.zero_add, Nat.add_zero, Nat.sub_zero, Nat.le_refl, Nat.add_sub_cancel, fu_at, fu_ne, iN_nz, n10_f, n01_f, ofN, qq_at_100, k110b, Nat.lt_irrefl, Nat.not_lt_zero, ne_eq, not_false_eq_true, not_true_eq_false, k0, t1, b_267_4]
theorem n_weight (h : R_N I τ m B C) (x : Int32) : NQ d 268 [.ref m, .int x] I τ m B (qv (q_sta (fun k => iN (p_we (s_P (g_S C)) k)) (g_S C) x)) (qc [0] (q_sta (fun k => iN (p_we (s_P (g_S C)) k)) (g_S C) x)) C := by
  obtain ⟨I', t1, t2⟩ := s_sta (d := d + 37) h (w := 2) (by omega) (f := fun k => iN (p_we (s_P (g_S C)) k)) (fun k hk => (h.2.1.2.2.2.2.2.2.2.2.2.2.2.2.1 k hk).2.2) x
  refine ⟨I', ?_, t2⟩
  have k0 := h.1.2.1
  rw [c_268, b_268_0]
  simp (disch := omega) only [rd_I_mk, rd_R_mk, rd_L_mk, rd_D_mk, kd_mk, wr_I_mk, cp_mk, gd_true, bd_ret, bd_thr, vl_none, vl_some, iN_add, iN_mul, iN_sub, iN_lt, iN_eq, iN_n, iN_m1, iN_pred, vp_iN, K0_le, nr_b0, nr_b1, m1_lt, lt_m1, iN_ne_m1, m1_ne_iN, not_lt_z, true_and, and_true, and_self, or_true, true_or, or_false, false_or, if_true, if_false, ↓reduceIte, eq_self, up_at, up_a, up_k, cp_c, cp_b, Nat.zero_add, Nat.add_zero, Nat.sub_zero, Nat.le_refl, Nat.add_sub_cancel, fu_at, fu_ne, iN_nz, n10_f, n01_f, ofN, qq_at_100, k110b, Nat.lt_irrefl, Nat.not_lt_zero, ne_eq, not_false_eq_true, not_true_eq_false, k0, t1, b_268_4]
theorem n_isBound (h : R_N I τ m B C) (x : Int32) : NQ d 269 [.ref m, .int x] I τ m B (qv (q_sta (fun k => b01 (bU (s_U (g_S C)) k)) (g_S C) x)) (qc [0] (q_sta (fun k => b01 (bU (s_U (g_S C)) k)) (g_S C) x)) C := by
  have hL := h.1
  have hR := h.2.1
  have hw := h.2.2.1
  have hR7 : ∀ v, R_F (up_2 I m 7 v (m + 1)) (g_S C) := fun v => R_F_7 hR
  obtain ⟨m70, k0, r0, r1, r2, r3, r4, r5, -, -, -, g1, g2, g3, g4, g5, g6, -⟩ := hL
  have w1 := hw.2.1.1
  have w2 := hw.2.1.2.1
  have w3 := hw.2.2.1.1
  have q1 := c_isStatue (d := d + 38) h.1 hR hw x
  unfold q_sta
  cases hx : inN (p_ns (s_P (g_S C))) x with
  | false =>
    rw [hx, b01_f] at q1
    refine ⟨up_2 I m 7 (iN 1), ?_, PN_7 h⟩
    rw [c_269, b_269_0]
    simp (disch := omega) only [rd_I_mk, rd_R_mk, rd_L_mk, rd_D_mk, kd_mk, wr_I_mk, cp_mk, gd_true, bd_ret, bd_thr, vl_none, vl_some, iN_add, iN_mul, iN_sub, iN_lt, iN_eq, iN_n, iN_m1, iN_pred, vp_iN, K0_le, nr_b0, nr_b1, m1_lt, lt_m1, iN_ne_m1, m1_ne_iN, not_lt_z, true_and, and_true, and_self, or_true, true_or, or_false, false_or, if_true, if_false, ↓reduceIte, eq_self, up_at, up_a, up_k, cp_c, cp_b, Nat.zero_add, Nat.add_zero, Nat.sub_zero, Nat.le_refl, Nat.add_sub_cancel, fu_at, fu_ne, iN_nz, n10_f, n01_f, ofN, qq_at_100, k110b, Nat.lt_irrefl, Nat.not_lt_zero, ne_eq, not_false_eq_true, not_true_eq_false, k0, q1, b_269_4, b_269_8, b_269_10, thT k0 m70, b_269_17, b_269_18, nr_b0]
    rfl
  | true =>
    rw [hx, b01_t] at q1
    obtain ⟨j, hj, rfl⟩ := (inN_iff (by omega)).mp hx
    rw [if_pos rfl, tn_iN (by omega)]
    have q2 := c_isHeld (d := d + 38) h.1 (hR7 (iN 0)) hw (x := j) (by omega)
    refine ⟨up_2 I m 7 (iN 0), ?_, PN_7 h⟩
    rw [c_269, b_269_0]
    cases hb : bU (s_U (g_S C)) j with
    | false =>
      rw [hb, b01_f] at q2
      simp (disch := omega) only [rd_I_mk, rd_R_mk, rd_L_mk, rd_D_mk, kd_mk, wr_I_mk, cp_mk, gd_true, bd_ret, bd_thr, vl_none, vl_some, iN_add, iN_mul, iN_sub, iN_lt, iN_eq, iN_n, iN_m1, iN_pred, vp_iN, K0_le, nr_b0, nr_b1, m1_lt, lt_m1, iN_ne_m1, m1_ne_iN, not_lt_z, true_and, and_true, and_self, or_true, true_or, or_false, false_or, if_true, if_false, ↓reduceIte, eq_self, up_at, up_a, up_k, cp_c, cp_b, Nat.zero_add, Nat.add_zero, Nat.sub_zero, Nat.le_refl, Nat.add_sub_cancel, fu_at, fu_ne, iN_nz, n10_f, n01_f, ofN, qq_at_100, k110b, Nat.lt_irrefl, Nat.not_lt_zero, ne_eq, not_false_eq_true, not_true_eq_false, k0, q1, b_269_4, b_269_8, b_269_10, thF k0 m70, q2, b_269_14, b_269_17, b_269_18, nr_b0]
      show _ = some (Sum.inl (some (Value.int (b01 (bU (s_U (g_S C)) j)))), (up_2 I m 7 (iN 0), τ))
      rw [hb, b01_f]
    | true =>
      rw [hb, b01_t] at q2
      simp (disch := omega) only [rd_I_mk, rd_R_mk, rd_L_mk, rd_D_mk, kd_mk, wr_I_mk, cp_mk, gd_true, bd_ret, bd_thr, vl_none, vl_some, iN_add, iN_mul, iN_sub, iN_lt, iN_eq, iN_n, iN_m1, iN_pred, vp_iN, K0_le, nr_b0, nr_b1, m1_lt, lt_m1, iN_ne_m1, m1_ne_iN, not_lt_z, true_and, and_true, and_self, or_true, true_or, or_false, false_or, if_true, if_false, ↓reduceIte, eq_self, up_at, up_a, up_k, cp_c, cp_b, Nat.zero_add, Nat.add_zero, Nat.sub_zero, Nat.le_refl, Nat.add_sub_cancel, fu_at, fu_ne, iN_nz, n10_f, n01_f, ofN, qq_at_100, k110b, Nat.lt_irrefl, Nat.not_lt_zero, ne_eq, not_false_eq_true, not_true_eq_false, k0, q1, b_269_4, b_269_8, b_269_10, thF k0 m70, q2, b_269_14, b_269_18, nr_b1]
      show _ = some (Sum.inl (some (Value.int (b01 (bU (s_U (g_S C)) j)))), (up_2 I m 7 (iN 0), τ))
      rw [hb, b01_t]
theorem c_home2 {S : sS} (hL : L_N τ m) (hR : R_F (I (m + 1)) S) (hw : wS B S) {x : Nat} (hx : x < p_ns (s_P S)) : CC (d + 1) 270 [.ref m, .int (iN x)] (I, τ) = some (.inl (some (.int (b01 (hmB S x)))), (I, τ)) := by
  obtain ⟨m70, k0, r0, r1, r2, r3, r4, r5, -, -, -, g1, -⟩ := hL
  have w1 := hw.2.1.1
  have w2 := hw.2.1.2.1
  obtain ⟨z1, z2, z3⟩ := hR.2.2.2.2.2.2.2.2.2.2.2.2.1 x hx
  obtain ⟨y1, y2, y3, y4⟩ := hw.2.1.2.2.2.1 x hx
  have q0 := c_ofStatue (d := d) (I := I) k0 r0 g1 (k := x) (w := 0) (by omega) (by omega)
  have q1 := c_ofStatue (d := d) (I := I) k0 r0 g1 (k := x) (w := 1) (by omega) (by omega)
  have z1 : I (m + 1) (19 + 3 * x + 0) = iN (p_pl (s_P S) x) := z1
  rw [z1] at q0
  rw [z2] at q1
  have eq4 : (iN (p_pl (s_P S) x) = iN (p_ho (s_P S) x)) = (p_pl (s_P S) x = p_ho (s_P S) x) := iN_eq (by omega) (by omega)
  unfold hmB
  rw [c_270, b_270_0]
  by_cases y : p_pl (s_P S) x = p_ho (s_P S) x
  · rw [eq_true y] at eq4
    rw [beq_iff_eq.mpr y, b01_t]
    simp (disch := omega) only [rd_I_mk, rd_R_mk, rd_L_mk, rd_D_mk, kd_mk, wr_I_mk, cp_mk, gd_true, bd_ret, bd_thr, vl_none, vl_some, iN_add, iN_mul, iN_sub, iN_lt, iN_eq, iN_n, iN_m1, iN_pred, vp_iN, K0_le, nr_b0, nr_b1, m1_lt, lt_m1, iN_ne_m1, m1_ne_iN, not_lt_z, true_and, and_true, and_self, or_true, true_or, or_false, false_or, if_true, if_false, ↓reduceIte, eq_self, up_at, up_a, up_k, cp_c, cp_b, Nat.zero_add, Nat.add_zero, Nat.sub_zero, Nat.le_refl, Nat.add_sub_cancel, fu_at, fu_ne, iN_nz, n10_f, n01_f, ofN, qq_at_100, k110b, Nat.lt_irrefl, Nat.not_lt_zero, ne_eq, not_false_eq_true, not_true_eq_false, k0, q0, b_270_4, q1, b_270_8, eq4, b_270_12, nr_b1]
  · rw [eq_false y] at eq4
    rw [beq_eq_false_iff_ne.mpr y, b01_f]
    simp (disch := omega) only [rd_I_mk, rd_R_mk, rd_L_mk, rd_D_mk, kd_mk, wr_I_mk, cp_mk, gd_true, bd_ret, bd_thr, vl_none, vl_some, iN_add, iN_mul, iN_sub, iN_lt, iN_eq, iN_n, iN_m1, iN_pred, vp_iN, K0_le, nr_b0, nr_b1, m1_lt, lt_m1, iN_ne_m1, m1_ne_iN, not_lt_z, true_and, and_true, and_self, or_true, true_or, or_false, false_or, if_true, if_false, ↓reduceIte, eq_self, up_at, up_a, up_k, cp_c, cp_b, Nat.zero_add, Nat.add_zero, Nat.sub_zero, Nat.le_refl, Nat.add_sub_cancel, fu_at, fu_ne, iN_nz, n10_f, n01_f, ofN, qq_at_100, k110b, Nat.lt_irrefl, Nat.not_lt_zero, ne_eq, not_false_eq_true, not_true_eq_false, k0, q0, b_270_4, q1, b_270_8, eq4, b_270_12, nr_b0]
theorem n_isHome (h : R_N I τ m B C) (x : Int32) : NQ d 271 [.ref m, .int x] I τ m B (qv (q_sta (fun k => b01 (hmB (g_S C) k)) (g_S C) x)) (qc [0] (q_sta (fun k => b01 (hmB (g_S C) k)) (g_S C) x)) C := by
  have hL := h.1
  have hR := h.2.1
  have hw := h.2.2.1
  have hR7 : ∀ v, R_F (up_2 I m 7 v (m + 1)) (g_S C) := fun v => R_F_7 hR
  obtain ⟨m70, k0, r0, r1, r2, r3, r4, r5, -, -, -, g1, g2, g3, g4, g5, g6, -⟩ := hL
  have w1 := hw.2.1.1
  have w2 := hw.2.1.2.1
  have w3 := hw.2.2.1.1
  have q1 := c_isStatue (d := d + 38) h.1 hR hw x
  unfold q_sta
  cases hx : inN (p_ns (s_P (g_S C))) x with
  | false =>
    rw [hx, b01_f] at q1
    refine ⟨up_2 I m 7 (iN 1), ?_, PN_7 h⟩
    rw [c_271, b_271_0]
    simp (disch := omega) only [rd_I_mk, rd_R_mk, rd_L_mk, rd_D_mk, kd_mk, wr_I_mk, cp_mk, gd_true, bd_ret, bd_thr, vl_none, vl_some, iN_add, iN_mul, iN_sub, iN_lt, iN_eq, iN_n, iN_m1, iN_pred, vp_iN, K0_le, nr_b0, nr_b1, m1_lt, lt_m1, iN_ne_m1, m1_ne_iN, not_lt_z, true_and, and_true, and_self, or_true, true_or, or_false, false_or, if_true, if_false, ↓reduceIte, eq_self, up_at, up_a, up_k, cp_c, cp_b, Nat.zero_add, Nat.add_zero, Nat.sub_zero, Nat.le_refl, Nat.add_sub_cancel, fu_at, fu_ne, iN_nz, n10_f, n01_f, ofN, qq_at_100, k110b, Nat.lt_irrefl, Nat.not_lt_zero, ne_eq, not_false_eq_true, not_true_eq_false, k0, q1, b_271_4, b_271_8, b_271_10, thT k0 m70, b_271_17, b_271_18, nr_b0]
    rfl
  | true =>
    rw [hx, b01_t] at q1
    obtain ⟨j, hj, rfl⟩ := (inN_iff (by omega)).mp hx
    rw [if_pos rfl, tn_iN (by omega)]
    have q2 := c_home2 (d := d + 38) h.1 (hR7 (iN 0)) hw (x := j) hj
    refine ⟨up_2 I m 7 (iN 0), ?_, PN_7 h⟩
    rw [c_271, b_271_0]
    cases hb : hmB (g_S C) j with
    | false =>
      rw [hb, b01_f] at q2
      simp (disch := omega) only [rd_I_mk, rd_R_mk, rd_L_mk, rd_D_mk, kd_mk, wr_I_mk, cp_mk, gd_true, bd_ret, bd_thr, vl_none, vl_some, iN_add, iN_mul, iN_sub, iN_lt, iN_eq, iN_n, iN_m1, iN_pred, vp_iN, K0_le, nr_b0, nr_b1, m1_lt, lt_m1, iN_ne_m1, m1_ne_iN, not_lt_z, true_and, and_true, and_self, or_true, true_or, or_false, false_or, if_true, if_false, ↓reduceIte, eq_self, up_at, up_a, up_k, cp_c, cp_b, Nat.zero_add, Nat.add_zero, Nat.sub_zero, Nat.le_refl, Nat.add_sub_cancel, fu_at, fu_ne, iN_nz, n10_f, n01_f, ofN, qq_at_100, k110b, Nat.lt_irrefl, Nat.not_lt_zero, ne_eq, not_false_eq_true, not_true_eq_false, k0, q1, b_271_4, b_271_8, b_271_10, thF k0 m70, q2, b_271_14, b_271_17, b_271_18, nr_b0]
      show _ = some (Sum.inl (some (Value.int (b01 (hmB (g_S C) j)))), (up_2 I m 7 (iN 0), τ))
      rw [hb, b01_f]
    | true =>
      rw [hb, b01_t] at q2
      simp (disch := omega) only [rd_I_mk, rd_R_mk, rd_L_mk, rd_D_mk, kd_mk, wr_I_mk, cp_mk, gd_true, bd_ret, bd_thr, vl_none, vl_some, iN_add, iN_mul, iN_sub, iN_lt, iN_eq, iN_n, iN_m1, iN_pred, vp_iN, K0_le, nr_b0, nr_b1, m1_lt, lt_m1, iN_ne_m1, m1_ne_iN, not_lt_z, true_and, and_true, and_self, or_true, true_or, or_false, false_or, if_true, if_false, ↓reduceIte, eq_self, up_at, up_a, up_k, cp_c, cp_b, Nat.zero_add, Nat.add_zero, Nat.sub_zero, Nat.le_refl, Nat.add_sub_cancel, fu_at, fu_ne, iN_nz, n10_f, n01_f, ofN, qq_at_100, k110b, Nat.lt_irrefl, Nat.not_lt_zero, ne_eq, not_false_eq_true, not_true_eq_false, k0, q1, b_271_4, b_271_8, b_271_10, thF k0 m70, q2, b_271_14, b_271_18, nr_b1]
      show _ = some (Sum.inl (some (Value.int (b01 (hmB (g_S C) j)))), (up_2 I m 7 (iN 0), τ))
      rw [hb, b01_t]
theorem n_byWeight (h : R_N I τ m B C) (x : Int32) : NQ d 272 [.ref m, .int x] I τ m B (qv (q_byWeight (g_S C) x)) (qc [3] (q_byWeight (g_S C) x)) C := by
  have hL := h.1
  have hR := h.2.1
  have hw := h.2.2.1
  have hR7 : ∀ v, R_F (up_2 I m 7 v (m + 1)) (g_S C) := fun v => R_F_7 hR
  obtain ⟨m70, k0, r0, r1, r2, r3, r4, r5, -, -, -, g1, g2, g3, g4, g5, g6, -⟩ := hL
  have w1 := hw.2.1.1
  have w2 := hw.2.1.2.1
  have w3 := hw.2.2.1.1
  have q1 := c_ranked (d := d + 37) h.1 hR hw x
  unfold rkO at q1
  unfold q_byWeight
  cases hx : inN (p_ns (s_P (g_S C))) x with
  | false =>
    rw [hx, if_neg (show ¬ (false = true) by decide)] at q1
    refine ⟨up_2 I m 7 (iN 1), ?_, PN_7 h⟩
    rw [c_272, b_272_0]
    simp (disch := omega) only [rd_I_mk, rd_R_mk, rd_L_mk, rd_D_mk, kd_mk, wr_I_mk, cp_mk, gd_true, bd_ret, bd_thr, vl_none, vl_some, iN_add, iN_mul, iN_sub, iN_lt, iN_eq, iN_n, iN_m1, iN_pred, vp_iN, K0_le, nr_b0, nr_b1, m1_lt, lt_m1, iN_ne_m1, m1_ne_iN, not_lt_z, true_and, and_true, and_self, or_true, true_or, or_false, false_or, if_true, if_false, ↓reduceIte, eq_self, up_at, up_a, up_k, cp_c, cp_b, Nat.zero_add, Nat.add_zero, Nat.sub_zero, Nat.le_refl, Nat.add_sub_cancel, fu_at, fu_ne, iN_nz, n10_f, n01_f, ofN, qq_at_100, k110b, Nat.lt_irrefl, Nat.not_lt_zero, ne_eq, not_false_eq_true, not_true_eq_false, k0, q1, oN, b_272_3, b_272_10, b_272_12, thT k0 m70, b_272_16]
    rfl
  | true =>
    rw [hx, if_pos rfl] at q1
    obtain ⟨j, hj, rfl⟩ := (inN_iff (by omega)).mp hx
    rw [if_pos rfl]
    have hlt := hf_lt hw.2.1 hj
    rw [tn_iN (by omega)] at q1 ⊢
    refine ⟨up_2 I m 7 (iN 0), ?_, PN_7 h⟩
    rw [c_272, b_272_0]
    simp (disch := omega) only [rd_I_mk, rd_R_mk, rd_L_mk, rd_D_mk, kd_mk, wr_I_mk, cp_mk, gd_true, bd_ret, bd_thr, vl_none, vl_some, iN_add, iN_mul, iN_sub, iN_lt, iN_eq, iN_n, iN_m1, iN_pred, vp_iN, K0_le, nr_b0, nr_b1, m1_lt, lt_m1, iN_ne_m1, m1_ne_iN, not_lt_z, true_and, and_true, and_self, or_true, true_or, or_false, false_or, if_true, if_false, ↓reduceIte, eq_self, up_at, up_a, up_k, cp_c, cp_b, Nat.zero_add, Nat.add_zero, Nat.sub_zero, Nat.le_refl, Nat.add_sub_cancel, fu_at, fu_ne, iN_nz, n10_f, n01_f, ofN, qq_at_100, k110b, Nat.lt_irrefl, Nat.not_lt_zero, ne_eq, not_false_eq_true, not_true_eq_false, k0, q1, oN, b_272_3, b_272_10, b_272_12, thF k0 m70, b_272_16]
    rfl
end MQ2
