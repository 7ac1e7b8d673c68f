/-! THE MODEL: what it is asked (four) -/
section MF
variable {d : Nat} {I : qq_I} {τ : qq_R} {m B : Nat} {S : sS}
theorem c_beforeM (hL : L_N τ m) (hR : R_F (I (m + 1)) S) (hw : wS B S) {a b : Nat} (ha : a < un (s_U S)) (hb : b < un (s_U S)) : CC (d + 1) 288 [.ref m, .int (iN a), .int (iN b)] (I, τ) = some (.inl (some (.int (b01 (ckB (s_U S) a b)))), (I, τ)) := by
  obtain ⟨m70, k0, r0, r1, r2, r3, r4, r5, -, -, -, g1, -⟩ := hL
  have w3 := hw.2.2.1.1
  have la1 : la (s_U S) a < 1000000 := (hw.2.2.1.2.2.2 a ha).2.2.2.2.2.1
  have la2 : la (s_U S) b < 1000000 := (hw.2.2.1.2.2.2 b hb).2.2.2.2.2.1
  have ba1 : ba (s_U S) a ≤ 60 := (hw.2.2.1.2.2.2 a ha).2.2.2.1
  have ba2 : ba (s_U S) b ≤ 60 := (hw.2.2.1.2.2.2 b hb).2.2.2.1
  have ql : ∀ k, k < un (s_U S) → CC d 216 [.ref m, .int (iN k), .int (iN 2)] (I, τ) = some (.inl (some (.int (iN (la (s_U S) k)))), (I, τ)) := fun k hk => by
    have := c_of (d := d) (I := I) k0 r0 g1 (k := k) (w := 2) (by omega) (by omega)
    rw [(hR.2.2.2.2.2.2.2.2.2.2.2.2.2.1 k hk).2.2.1] at this
    exact this
  have qb : ∀ k, k < un (s_U S) → CC d 216 [.ref m, .int (iN k), .int (iN 3)] (I, τ) = some (.inl (some (.int (iN (ba (s_U S) k)))), (I, τ)) := fun k hk => by
    have := c_of (d := d) (I := I) k0 r0 g1 (k := k) (w := 3) (by omega) (by omega)
    rw [(hR.2.2.2.2.2.2.2.2.2.2.2.2.2.1 k hk).2.2.2.1] at this
    exact this
  have a1 := ql a ha
  have a2 := ql b hb
  have b1 := qb a ha
  have b2 := qb b hb
  have e1 : (iN (la (s_U S) a) = iN (la (s_U S) b)) = (la (s_U S) a = la (s_U S) b) := iN_eq (by omega) (by omega)
  have e2 : (iN (la (s_U S) a) < iN (la (s_U S) b)) = (la (s_U S) a < la (s_U S) b) := iN_lt (by omega) (by omega)
  have e3 : (iN (ba (s_U S) a) = iN (ba (s_U S) b)) = (ba (s_U S) a = ba (s_U S) b) := iN_eq (by omega) (by omega)
  have e4 : (iN (ba (s_U S) b) < iN (ba (s_U S) a)) = (ba (s_U S) b < ba (s_U S) a) := iN_lt (by omega) (by omega)
  have e5 : (iN a < iN b) = (a < b) := iN_lt (by omega) (by omega)
  unfold ckB
  rw [c_288, b_288_0]
  generalize la (s_U S) a = A at *
  generalize la (s_U S) b = A' at *
  generalize ba (s_U S) a = D at *
  generalize ba (s_U S) b = D' at *
  by_cases z1 : A = A'
  · rw [eq_true z1] at e1
    by_cases z2 : D = D'
    · rw [eq_true z2] at e3
      by_cases z3 : a < b
      · rw [eq_true z3] at e5
        simp only [kd_mk, k0, gd_true, a1, a2, b1, b2, bd_ret, vl_some, b_288_4, b_288_8, e1, e3, e5, if_true, b_288_26, b_288_30, b_288_50, nr_b1]
        rw [decide_eq_true z1, decide_eq_true z2, decide_eq_true z3, Bool.true_and, Bool.true_and, Bool.or_true, Bool.or_true]
        rfl
      · rw [eq_false z3] at e5
        simp only [kd_mk, k0, gd_true, a1, a2, b1, b2, bd_ret, vl_some, b_288_4, b_288_8, e1, e3, e5, if_true, if_false, b_288_26, b_288_30, b_288_50, nr_b0]
        rw [decide_eq_false (show ¬ A < A' by omega), decide_eq_false (show ¬ D' < D by omega), decide_eq_false z3, Bool.and_false, Bool.or_false, Bool.and_false]
        rfl
    · rw [eq_false z2] at e3
      by_cases z3 : D' < D
      · rw [eq_true z3] at e4
        simp only [kd_mk, k0, gd_true, a1, a2, b1, b2, bd_ret, vl_some, b_288_4, b_288_8, e1, e3, e4, if_true, if_false, b_288_26, b_288_30, b_288_35, b_288_39, b_288_50, nr_b1]
        rw [decide_eq_true z1, decide_eq_true z3, Bool.true_or, Bool.and_true, Bool.or_true]
        rfl
      · rw [eq_false z3] at e4
        simp only [kd_mk, k0, gd_true, a1, a2, b1, b2, bd_ret, vl_some, b_288_4, b_288_8, e1, e3, e4, if_true, if_false, b_288_26, b_288_30, b_288_35, b_288_39, b_288_50, nr_b0]
        rw [decide_eq_false (show ¬ A < A' by omega), decide_eq_false z3, decide_eq_false z2, Bool.false_and, Bool.or_false, Bool.and_false]
        rfl
  · rw [eq_false z1] at e1
    by_cases z2 : A < A'
    · rw [eq_true z2] at e2
      simp only [kd_mk, k0, gd_true, a1, a2, bd_ret, vl_some, b_288_4, b_288_8, e1, e2, if_true, if_false, b_288_13, b_288_17, b_288_21, nr_b1]
      rw [decide_eq_true z2, Bool.true_or]
      rfl
    · rw [eq_false z2] at e2
      simp only [kd_mk, k0, gd_true, a1, a2, bd_ret, vl_some, b_288_4, b_288_8, e1, e2, if_false, b_288_13, b_288_17, b_288_21, nr_b0]
      rw [decide_eq_false z2, decide_eq_false z1, Bool.false_and, Bool.or_false]
      rfl
/-- counting what comes before one -/
theorem c_rank1 (hL : L_N τ m) (hR : R_F (I (m + 1)) S) (hw : wS B S) {i : Nat} (hi : i < un (s_U S)) (x : Int32) : ∀ n j, j + n = un (s_U S) → RR (d + 2) 289 12 [some (.ref m), some (.int x), some (.int (iN i)), some (.int (iN (cn (fun j => !(j == i) && ckB (s_U S) j i) j))), some (.int (iN j))] [] (I, τ) = RR (d + 2) 289 12 [some (.ref m), some (.int x), some (.int (iN i)), some (.int (iN (rnk (s_U S) i))), some (.int (iN (un (s_U S))))] [] (I, τ) := by
  have hL0 := hL
  obtain ⟨m70, k0, r0, r1, r2, r3, r4, r5, -, -, -, g1, -⟩ := hL
  have w3 := hw.2.2.1.1
  have h10 := hR.2.2.2.2.2.2.2.2.2.2.1
  intro n
  induction n with
  | zero =>
    intro j hj
    have hj : j = un (s_U S) := hj
    subst hj
    rfl
  | succ n ih =>
    intro j hj
    have e : j < un (s_U S) := by omega
    have qj := c_beforeM (d := d) hL0 hR hw e hi
    have hcj : cn (fun j => !(j == i) && ckB (s_U S) j i) j ≤ j := cn_le
    rw [← ih (j + 1) (by omega), b_289_12]
    by_cases y : j = i
    · subst y
      have ec : cn (fun x => !(x == j) && ckB (s_U S) x j) (j + 1) = cn (fun x => !(x == j) && ckB (s_U S) x j) j := cn_n (f := fun x => !(x == j) && ckB (s_U S) x j) (by rw [beq_self_eq_true, Bool.not_true, Bool.false_and]; decide)
      rw [ec]
      simp (disch := omega) only [rd_I_mk, rd_R_mk, rd_L_mk, rd_D_mk, kd_mk, wr_I_mk, cp_mk, gd_true, bd_ret, bd_thr, vl_none, vl_some, iN_add, iN_mul, iN_sub, iN_lt, iN_eq, iN_n, iN_m1, iN_pred, vp_iN, K0_le, nr_b0, nr_b1, m1_lt, lt_m1, iN_ne_m1, m1_ne_iN, not_lt_z, true_and, and_true, and_self, or_true, true_or, or_false, false_or, if_true, if_false, ↓reduceIte, eq_self, up_at, up_a, up_k, cp_c, cp_b, Nat.zero_add, Nat.add_zero, Nat.sub_zero, Nat.le_refl, Nat.add_sub_cancel, fu_at, fu_ne, iN_nz, n10_f, n01_f, ofN, qq_at_100, k110b, Nat.lt_irrefl, Nat.not_lt_zero, ne_eq, not_false_eq_true, not_true_eq_false, k0, r0, g1, h10, e, b_289_29, b_289_30]
    · have eji : (iN j = iN i) = False := (iN_eq (by omega) (by omega)).trans (eq_false y)
      cases hb : ckB (s_U S) j i with
      | true =>
        have ec : cn (fun j => !(j == i) && ckB (s_U S) j i) (j + 1) = cn (fun j => !(j == i) && ckB (s_U S) j i) j + 1 := cn_y (f := fun j => !(j == i) && ckB (s_U S) j i) (by rw [beq_eq_false_iff_ne.mpr y, hb]; rfl)
        rw [ec]
        rw [hb, b01_t] at qj
        simp (disch := omega) only [rd_I_mk, rd_R_mk, rd_L_mk, rd_D_mk, kd_mk, wr_I_mk, cp_mk, gd_true, bd_ret, bd_thr, vl_none, vl_some, iN_add, iN_mul, iN_sub, iN_lt, iN_eq, iN_n, iN_m1, iN_pred, vp_iN, K0_le, nr_b0, nr_b1, m1_lt, lt_m1, iN_ne_m1, m1_ne_iN, not_lt_z, true_and, and_true, and_self, or_true, true_or, or_false, false_or, if_true, if_false, ↓reduceIte, eq_self, up_at, up_a, up_k, cp_c, cp_b, Nat.zero_add, Nat.add_zero, Nat.sub_zero, Nat.le_refl, Nat.add_sub_cancel, fu_at, fu_ne, iN_nz, n10_f, n01_f, ofN, qq_at_100, k110b, Nat.lt_irrefl, Nat.not_lt_zero, ne_eq, not_false_eq_true, not_true_eq_false, k0, r0, g1, h10, e, eji, qj, b_289_26, b_289_30]
      | false =>
        have ec : cn (fun j => !(j == i) && ckB (s_U S) j i) (j + 1) = cn (fun j => !(j == i) && ckB (s_U S) j i) j := cn_n (f := fun j => !(j == i) && ckB (s_U S) j i) (by rw [hb, Bool.and_false]; decide)
        rw [ec]
        rw [hb, b01_f] at qj
        simp (disch := omega) only [rd_I_mk, rd_R_mk, rd_L_mk, rd_D_mk, kd_mk, wr_I_mk, cp_mk, gd_true, bd_ret, bd_thr, vl_none, vl_some, iN_add, iN_mul, iN_sub, iN_lt, iN_eq, iN_n, iN_m1, iN_pred, vp_iN, K0_le, nr_b0, nr_b1, m1_lt, lt_m1, iN_ne_m1, m1_ne_iN, not_lt_z, true_and, and_true, and_self, or_true, true_or, or_false, false_or, if_true, if_false, ↓reduceIte, eq_self, up_at, up_a, up_k, cp_c, cp_b, Nat.zero_add, Nat.add_zero, Nat.sub_zero, Nat.le_refl, Nat.add_sub_cancel, fu_at, fu_ne, iN_nz, n10_f, n01_f, ofN, qq_at_100, k110b, Nat.lt_irrefl, Nat.not_lt_zero, ne_eq, not_false_eq_true, not_true_eq_false, k0, r0, g1, h10, e, eji, qj, b_289_26, b_289_29, b_289_30]
/-- all that the model holds is worth -/
theorem c_worth (hL : L_N τ m) (hR : R_F (I (m + 1)) S) : CC d 293 [.ref m] (I, τ) = some (.inl (some (.int (m_tr (s_M S) + sA (fun w => iN (m_bl (s_M S) w)) 20))), (I, τ)) := by
  obtain ⟨m70, k0, r0, r1, r2, r3, r4, r5, -, -, -, g1, -⟩ := hL
  have h2 := hR.2.2.1
  have h14 := hR.2.2.2.2.2.2.2.2.2.2.2.2.2.2
  have lp : ∀ n w, w + n = 20 → RR d 293 7 [some (.ref m), some (.int (m_tr (s_M S) + sA (fun w => iN (m_bl (s_M S) w)) w)), some (.int (iN (w + 1)))] [] (I, τ) = some (.inl (some (.int (m_tr (s_M S) + sA (fun w => iN (m_bl (s_M S) w)) 20))), (I, τ)) := by
    intro n
    induction n with
    | zero =>
      intro w hw
      have hw : w = 20 := hw
      subst hw
      have e : 20 < 21 := by omega
      rw [b_293_7]
      simp (disch := omega) only [rd_I_mk, rd_R_mk, rd_L_mk, rd_D_mk, kd_mk, wr_I_mk, cp_mk, gd_true, bd_ret, bd_thr, vl_none, vl_some, iN_add, iN_mul, iN_sub, iN_lt, iN_eq, iN_n, iN_m1, iN_pred, vp_iN, K0_le, nr_b0, nr_b1, m1_lt, lt_m1, iN_ne_m1, m1_ne_iN, not_lt_z, true_and, and_true, and_self, or_true, true_or, or_false, false_or, if_true, if_false, ↓reduceIte, eq_self, up_at, up_a, up_k, cp_c, cp_b, Nat.zero_add, Nat.add_zero, Nat.sub_zero, Nat.le_refl, Nat.add_sub_cancel, fu_at, fu_ne, iN_nz, n10_f, n01_f, ofN, qq_at_100, k110b, Nat.lt_irrefl, Nat.not_lt_zero, ne_eq, not_false_eq_true, not_true_eq_false, e]
    | succ n ih =>
      intro w hw
      have e : ¬ 20 < w + 1 := by omega
      have hb := h14 (w + 1) (by omega)
      have t := ih (w + 1) (by omega)
      have es : sA (fun w => iN (m_bl (s_M S) w)) (w + 1) = sA (fun w => iN (m_bl (s_M S) w)) w + iN (w + 1) * iN (m_bl (s_M S) (w + 1)) := rfl
      rw [es, ← Int32.add_assoc] at t
      have p1 : vp_in (iN (85 + (w + 1))) 106 = True := vp_iN (by omega) (by omega)
      have p2 : (iN (85 + (w + 1))).toNatClampNeg = 85 + (w + 1) := iN_n (by omega)
      have p3 : (iN 20 < iN (w + 1)) = False := (iN_lt (by omega) (by omega)).trans (eq_false e)
      rw [b_293_7]
      simp only [p3, if_false, kd_mk, rd_R_mk, rd_I_mk, k0, r0, g1, gd_true, true_and, and_true, and_self, iN_add, p1, p2, hb]
      exact t
  rw [c_293, b_293_0]
  have := lp 20 0 rfl
  have e0 : m_tr (s_M S) + sA (fun w => iN (m_bl (s_M S) w)) 0 = m_tr (s_M S) := Int32.add_zero _
  rw [e0] at this
  simp (disch := omega) only [rd_I_mk, rd_R_mk, rd_L_mk, rd_D_mk, kd_mk, wr_I_mk, cp_mk, gd_true, bd_ret, bd_thr, vl_none, vl_some, iN_add, iN_mul, iN_sub, iN_lt, iN_eq, iN_n, iN_m1, iN_pred, vp_iN, K0_le, nr_b0, nr_b1, m1_lt, lt_m1, iN_ne_m1, m1_ne_iN, not_lt_z, true_and, and_true, and_self, or_true, true_or, or_false, false_or, if_true, if_false, ↓reduceIte, eq_self, up_at, up_a, up_k, cp_c, cp_b, Nat.zero_add, Nat.add_zero, Nat.sub_zero, Nat.le_refl, Nat.add_sub_cancel, fu_at, fu_ne, iN_nz, n10_f, n01_f, ofN, qq_at_100, k110b, Nat.lt_irrefl, Nat.not_lt_zero, ne_eq, not_false_eq_true, not_true_eq_false, k0, r0, g1, h2]
  exact this
/-- every statue stands where it stands -/
theorem c_stand (hL : L_N τ m) (hR : R_F (I (m + 1)) S) (hw : wS B S) : ∀ n k, k + n = p_ns (s_P S) → RR (d + 2) 303 16 [some (.ref m), some (.int (iN 1)), some (.int (iN k))] [] (I, τ) = some (.inl (some (.int (iN 1))), (I, τ)) := by
  have hL0 := hL
  obtain ⟨m70, k0, r0, r1, r2, r3, r4, r5, -, -, -, g1, -⟩ := hL
  have h9 := hR.2.2.2.2.2.2.2.2.2.1
  have w1 := hw.2.1.1
  have w2 := hw.2.1.2.1
  intro n
  induction n with
  | zero =>
    intro k hk
    have hk : k = p_ns (s_P S) := hk
    subst hk
    rw [b_303_16]
    simp (disch := omega) only [rd_I_mk, rd_R_mk, rd_L_mk, rd_D_mk, kd_mk, wr_I_mk, cp_mk, gd_true, bd_ret, bd_thr, vl_none, vl_some, iN_add, iN_mul, iN_sub, iN_lt, iN_eq, iN_n, iN_m1, iN_pred, vp_iN, K0_le, nr_b0, nr_b1, m1_lt, lt_m1, iN_ne_m1, m1_ne_iN, not_lt_z, true_and, and_true, and_self, or_true, true_or, or_false, false_or, if_true, if_false, ↓reduceIte, eq_self, up_at, up_a, up_k, cp_c, cp_b, Nat.zero_add, Nat.add_zero, Nat.sub_zero, Nat.le_refl, Nat.add_sub_cancel, fu_at, fu_ne, iN_nz, n10_f, n01_f, ofN, qq_at_100, k110b, Nat.lt_irrefl, Nat.not_lt_zero, ne_eq, not_false_eq_true, not_true_eq_false, k0, r0, g1, h9, Nat.lt_irrefl, nr_b1]
  | succ n ih =>
    intro k hk
    have e : k < p_ns (s_P S) := by omega
    have hpl := (hw.2.1.2.2.2.1 k e).2.2.1
    have q0 : CC (d + 1) 214 [.ref m, .int (iN k), .int (iN 0)] (I, τ) = some (.inl (some (.int (I (m + 1) (19 + 3 * k)))), (I, τ)) := c_ofStatue (d := d + 1) (I := I) k0 r0 g1 (k := k) (w := 0) (by omega) (by omega)
    rw [(hR.2.2.2.2.2.2.2.2.2.2.2.2.1 k e).1] at q0
    have q1 := c_on (d := d) hL0 hR hw (x := p_pl (s_P S) k) (by omega)
    have ho : onP (s_P S) (p_pl (s_P S) k) = some k := ff_is e (beq_iff_eq.mpr rfl) (fun j hj h => by
      have := hw.2.1.2.2.2.2.1 j k (by omega) e (beq_iff_eq.mp h)
      omega)
    rw [ho] at q1
    have q1 : CC (d + 1) 221 [.ref m, .int (iN (p_pl (s_P S) k))] (I, τ) = some (.inl (some (.int (iN k))), (I, τ)) := q1
    have t := ih (k + 1) (by omega)
    rw [b_303_16]
    simp (disch := omega) only [kd_mk, rd_R_mk, rd_I_mk, k0, r0, g1, gd_true, true_and, and_true, and_self, vp_iN, iN_n, h9, iN_lt, e, if_true, q0, bd_ret, vl_some, b_303_28, q1, b_303_29, b_303_34, iN_add, iN_and1, Nat.mod_succ]
    exact t
end MF
section MF2
variable {d : Nat} {I : qq_I} {τ : qq_R} {m B : Nat} {C : sC}
theorem n_byLast (h : R_N I τ m B C) (x : Int32) : NQ d 289 [.ref m, .int x] I τ m B (qv (q_byLast (g_S C) x)) (qc [3] (q_byLast (g_S C) x)) C := by
  have hL := h.1
  have hR := h.2.1
  have hw := h.2.2.1
  have hR7 : ∀ v, R_F (up_2 I m 7 v (m + 1)) (g_S C) := fun v => R_F_7 hR
  obtain ⟨m70, k0, r0, r1, r2, r3, r4, r5, -, -, -, g1, g2, g3, g4, g5, g6, -⟩ := hL
  have w1 := hw.2.1.1
  have w2 := hw.2.1.2.1
  have w3 := hw.2.2.1.1
  have h10 := hR.2.2.2.2.2.2.2.2.2.2.1
  have hid : ∀ k, k < un (s_U (g_S C)) → I (m + 1) (37 + 6 * k) = iN (w_id (ug (s_U (g_S C)) k)) := fun k hk => (hR.2.2.2.2.2.2.2.2.2.2.2.2.2.1 k hk).1
  have lp : ∀ n i u3 u4, i + n = un (s_U (g_S C)) → ∃ I', RR (d + 40) 289 2 [some (.ref m), some (.int x), some (.int (iN i)), u3, u4] [] (I, τ) = some (.inl (some (.int (match ff (fun i => iN (rnk (s_U (g_S C)) i) == x) i n with
        | none => iN 0
        | some k => iN (w_id (ug (s_U (g_S C)) k))))), (I', τ)) ∧ PN m I I' τ B (match ff (fun i => iN (rnk (s_U (g_S C)) i) == x) i n with
        | none => 1
        | some _ => 0) C := by
    intro n
    induction n with
    | zero =>
      intro i u3 u4 hi
      have hi : i = un (s_U (g_S C)) := hi
      subst hi
      refine ⟨up_2 I m 7 (iN 1), ?_, PN_7 h⟩
      rw [b_289_2]
      simp (disch := omega) only [rd_I_mk, rd_R_mk, rd_L_mk, rd_D_mk, kd_mk, wr_I_mk, cp_mk, gd_true, bd_ret, bd_thr, vl_none, vl_some, iN_add, iN_mul, iN_sub, iN_lt, iN_eq, iN_n, iN_m1, iN_pred, vp_iN, K0_le, nr_b0, nr_b1, m1_lt, lt_m1, iN_ne_m1, m1_ne_iN, not_lt_z, true_and, and_true, and_self, or_true, true_or, or_false, false_or, if_true, if_false, ↓reduceIte, eq_self, up_at, up_a, up_k, cp_c, cp_b, Nat.zero_add, Nat.add_zero, Nat.sub_zero, Nat.le_refl, Nat.add_sub_cancel, fu_at, fu_ne, iN_nz, n10_f, n01_f, ofN, qq_at_100, k110b, Nat.lt_irrefl, Nat.not_lt_zero, ne_eq, not_false_eq_true, not_true_eq_false, k0, r0, g1, h10, Nat.lt_irrefl, b_289_50]
      rfl
    | succ n ih =>
      intro i u3 u4 hi
      have e : i < un (s_U (g_S C)) := by omega
      have t := c_rank1 (d := d + 38) h.1 hR hw e x (un (s_U (g_S C))) 0 (Nat.zero_add _)
      have t : RR (d + 40) 289 12 [some (.ref m), some (.int x), some (.int (iN i)), some (.int (iN 0)), some (.int (iN 0))] [] (I, τ) = RR (d + 40) 289 12 [some (.ref m), some (.int x), some (.int (iN i)), some (.int (iN (rnk (s_U (g_S C)) i))), some (.int (iN (un (s_U (g_S C)))))] [] (I, τ) := t
      cases hb : (iN (rnk (s_U (g_S C)) i) == x) with
      | true =>
        rw [ff_y (f := fun i => iN (rnk (s_U (g_S C)) i) == x) hb]
        have hx := beq_iff_eq.mp hb
        have q0 : CC (d + 39) 216 [.ref m, .int (iN i), .int (iN 0)] (up_2 I m 7 (iN 0), τ) = some (.inl (some (.int (up_2 I m 7 (iN 0) (m + 1) (37 + 6 * i)))), (up_2 I m 7 (iN 0), τ)) := c_of (d := d + 39) (I := up_2 I m 7 (iN 0)) k0 r0 g1 (k := i) (w := 0) (by omega) (by omega)
        rw [up_c (by omega), hid i e] at q0
        refine ⟨up_2 I m 7 (iN 0), ?_, PN_7 h⟩
        rw [b_289_2]
        simp (disch := omega) only [rd_I_mk, rd_R_mk, rd_L_mk, rd_D_mk, kd_mk, wr_I_mk, cp_mk, gd_true, bd_ret, bd_thr, vl_none, vl_some, iN_add, iN_mul, iN_sub, iN_lt, iN_eq, iN_n, iN_m1, iN_pred, vp_iN, K0_le, nr_b0, nr_b1, m1_lt, lt_m1, iN_ne_m1, m1_ne_iN, not_lt_z, true_and, and_true, and_self, or_true, true_or, or_false, false_or, if_true, if_false, ↓reduceIte, eq_self, up_at, up_a, up_k, cp_c, cp_b, Nat.zero_add, Nat.add_zero, Nat.sub_zero, Nat.le_refl, Nat.add_sub_cancel, fu_at, fu_ne, iN_nz, n10_f, n01_f, ofN, qq_at_100, k110b, Nat.lt_irrefl, Nat.not_lt_zero, ne_eq, not_false_eq_true, not_true_eq_false, k0, r0, g1, h10, e]
        rw [t, b_289_12]
        simp (disch := omega) only [rd_I_mk, rd_R_mk, rd_L_mk, rd_D_mk, kd_mk, wr_I_mk, cp_mk, gd_true, bd_ret, bd_thr, vl_none, vl_some, iN_add, iN_mul, iN_sub, iN_lt, iN_eq, iN_n, iN_m1, iN_pred, vp_iN, K0_le, nr_b0, nr_b1, m1_lt, lt_m1, iN_ne_m1, m1_ne_iN, not_lt_z, true_and, and_true, and_self, or_true, true_or, or_false, false_or, if_true, if_false, ↓reduceIte, eq_self, up_at, up_a, up_k, cp_c, cp_b, Nat.zero_add, Nat.add_zero, Nat.sub_zero, Nat.le_refl, Nat.add_sub_cancel, fu_at, fu_ne, iN_nz, n10_f, n01_f, ofN, qq_at_100, k110b, Nat.lt_irrefl, Nat.not_lt_zero, ne_eq, not_false_eq_true, not_true_eq_false, k0, r0, g1, h10, Nat.lt_irrefl, hx, b_289_40, q0, b_289_44]
      | false =>
        rw [ff_n (f := fun i => iN (rnk (s_U (g_S C)) i) == x) (by rw [hb]; decide)]
        have hx : (iN (rnk (s_U (g_S C)) i) = x) = False := eq_false (beq_eq_false_iff_ne.mp hb)
        obtain ⟨I', t1, t2⟩ := ih (i + 1) (some (.int (iN (rnk (s_U (g_S C)) i)))) (some (.int (iN (un (s_U (g_S C)))))) (by omega)
        refine ⟨I', ?_, t2⟩
        rw [b_289_2]
        simp (disch := omega) only [rd_I_mk, rd_R_mk, rd_L_mk, rd_D_mk, kd_mk, wr_I_mk, cp_mk, gd_true, bd_ret, bd_thr, vl_none, vl_some, iN_add, iN_mul, iN_sub, iN_lt, iN_eq, iN_n, iN_m1, iN_pred, vp_iN, K0_le, nr_b0, nr_b1, m1_lt, lt_m1, iN_ne_m1, m1_ne_iN, not_lt_z, true_and, and_true, and_self, or_true, true_or, or_false, false_or, if_true, if_false, ↓reduceIte, eq_self, up_at, up_a, up_k, cp_c, cp_b, Nat.zero_add, Nat.add_zero, Nat.sub_zero, Nat.le_refl, Nat.add_sub_cancel, fu_at, fu_ne, iN_nz, n10_f, n01_f, ofN, qq_at_100, k110b, Nat.lt_irrefl, Nat.not_lt_zero, ne_eq, not_false_eq_true, not_true_eq_false, k0, r0, g1, h10, e]
        rw [t, b_289_12]
        simp (disch := omega) only [rd_I_mk, rd_R_mk, rd_L_mk, rd_D_mk, kd_mk, wr_I_mk, cp_mk, gd_true, bd_ret, bd_thr, vl_none, vl_some, iN_add, iN_mul, iN_sub, iN_lt, iN_eq, iN_n, iN_m1, iN_pred, vp_iN, K0_le, nr_b0, nr_b1, m1_lt, lt_m1, iN_ne_m1, m1_ne_iN, not_lt_z, true_and, and_true, and_self, or_true, true_or, or_false, false_or, if_true, if_false, ↓reduceIte, eq_self, up_at, up_a, up_k, cp_c, cp_b, Nat.zero_add, Nat.add_zero, Nat.sub_zero, Nat.le_refl, Nat.add_sub_cancel, fu_at, fu_ne, iN_nz, n10_f, n01_f, ofN, qq_at_100, k110b, Nat.lt_irrefl, Nat.not_lt_zero, ne_eq, not_false_eq_true, not_true_eq_false, k0, r0, g1, h10, Nat.lt_irrefl, hx]
        exact t1
  obtain ⟨I', t1, t2⟩ := lp (un (s_U (g_S C))) 0 none none (Nat.zero_add _)
  rw [rnk_ff hw.2.2.1 x] at t1 t2
  unfold q_byLast
  cases hx : inN (un (s_U (g_S C))) x with
  | true =>
    rw [hx, if_pos rfl] at t1 t2
    refine ⟨I', ?_, t2⟩
    rw [c_289, b_289_0, t1]
    rfl
  | false =>
    rw [hx, if_neg (show ¬ (false = true) by decide)] at t1 t2
    refine ⟨I', ?_, t2⟩
    rw [c_289, b_289_0, t1]
    rfl
theorem n_blocks (h : R_N I τ m B C) (x : Int32) : NQ d 290 [.ref m, .int x] I τ m B (qv (q_blocks (g_S C) x)) (qc [1] (q_blocks (g_S C) x)) C := by
  have hL := h.1
  have hR := h.2.1
  have hw := h.2.2.1
  have hR7 : ∀ v, R_F (up_2 I m 7 v (m + 1)) (g_S C) := fun v => R_F_7 hR
  obtain ⟨m70, k0, r0, r1, r2, r3, r4, r5, -, -, -, g1, g2, g3, g4, g5, g6, -⟩ := hL
  have w1 := hw.2.1.1
  have w2 := hw.2.1.2.1
  have w3 := hw.2.2.1.1
  have q1 := c_isIn (d := d + 39) (I := I) (τ := τ) (x := x) (lo := iN 1) (hi := iN 20)
  rw [inB_eq] at q1
  unfold q_blocks
  cases hx : inB 1 20 x with
  | false =>
    rw [hx, b01_f] at q1
    refine ⟨up_2 I m 7 (iN 1), ?_, PN_7 h⟩
    rw [c_290, b_290_0]
    simp (disch := omega) only [rd_I_mk, rd_R_mk, rd_L_mk, rd_D_mk, kd_mk, wr_I_mk, cp_mk, gd_true, bd_ret, bd_thr, vl_none, vl_some, iN_add, iN_mul, iN_sub, iN_lt, iN_eq, iN_n, iN_m1, iN_pred, vp_iN, K0_le, nr_b0, nr_b1, m1_lt, lt_m1, iN_ne_m1, m1_ne_iN, not_lt_z, true_and, and_true, and_self, or_true, true_or, or_false, false_or, if_true, if_false, ↓reduceIte, eq_self, up_at, up_a, up_k, cp_c, cp_b, Nat.zero_add, Nat.add_zero, Nat.sub_zero, Nat.le_refl, Nat.add_sub_cancel, fu_at, fu_ne, iN_nz, n10_f, n01_f, ofN, qq_at_100, k110b, Nat.lt_irrefl, Nat.not_lt_zero, ne_eq, not_false_eq_true, not_true_eq_false, k0, q1, b_290_5, b_290_9, b_290_11, thT k0 m70, b_290_20]
    rfl
  | true =>
    rw [hx, b01_t] at q1
    obtain ⟨j, hj0, hj, rfl⟩ := (inB_iff (by omega) (by omega)).mp hx
    rw [if_pos rfl, tn_iN (by omega)]
    have e := (hR7 (iN 0)).2.2.2.2.2.2.2.2.2.2.2.2.2.2 j (by omega)
    refine ⟨up_2 I m 7 (iN 0), ?_, PN_7 h⟩
    rw [c_290, b_290_0]
    simp (disch := omega) only [rd_I_mk, rd_R_mk, rd_L_mk, rd_D_mk, kd_mk, wr_I_mk, cp_mk, gd_true, bd_ret, bd_thr, vl_none, vl_some, iN_add, iN_mul, iN_sub, iN_lt, iN_eq, iN_n, iN_m1, iN_pred, vp_iN, K0_le, nr_b0, nr_b1, m1_lt, lt_m1, iN_ne_m1, m1_ne_iN, not_lt_z, true_and, and_true, and_self, or_true, true_or, or_false, false_or, if_true, if_false, ↓reduceIte, eq_self, up_at, up_a, up_k, cp_c, cp_b, Nat.zero_add, Nat.add_zero, Nat.sub_zero, Nat.le_refl, Nat.add_sub_cancel, fu_at, fu_ne, iN_nz, n10_f, n01_f, ofN, qq_at_100, k110b, Nat.lt_irrefl, Nat.not_lt_zero, ne_eq, not_false_eq_true, not_true_eq_false, k0, q1, b_290_5, b_290_9, b_290_11, thF k0 m70, r0, g1, e, b_290_20]
    rfl
theorem s_fewest (h : R_N I τ m B C) (x : Int32) : NR (d + 2) 291 [.ref m, .int x] I τ m B (qv (q_fewest (g_S C) x)) (qc [1, 4] (q_fewest (g_S C) x)) C := by
  have hL := h.1
  have hR := h.2.1
  have hw := h.2.2.1
  have hR7 : ∀ v, R_F (up_2 I m 7 v (m + 1)) (g_S C) := fun v => R_F_7 hR
  obtain ⟨m70, k0, r0, r1, r2, r3, r4, r5, -, -, -, g1, g2, g3, g4, g5, g6, -⟩ := hL
  have w1 := hw.2.1.1
  have w2 := hw.2.1.2.1
  have w3 := hw.2.2.1.1
  have q1 := c_isIn (d := d + 1) (I := I) (τ := τ) (x := x) (lo := iN 1) (hi := iN 60)
  rw [inB_eq] at q1
  unfold q_fewest
  cases hx : inB 1 60 x with
  | false =>
    rw [hx, b01_f] at q1
    refine ⟨up_2 I m 7 (iN 1), ?_, PN_7 h⟩
    rw [c_291, b_291_0]
    simp (disch := omega) only [rd_I_mk, rd_R_mk, rd_L_mk, rd_D_mk, kd_mk, wr_I_mk, cp_mk, gd_true, bd_ret, bd_thr, vl_none, vl_some, iN_add, iN_mul, iN_sub, iN_lt, iN_eq, iN_n, iN_m1, iN_pred, vp_iN, K0_le, nr_b0, nr_b1, m1_lt, lt_m1, iN_ne_m1, m1_ne_iN, not_lt_z, true_and, and_true, and_self, or_true, true_or, or_false, false_or, if_true, if_false, ↓reduceIte, eq_self, up_at, up_a, up_k, cp_c, cp_b, Nat.zero_add, Nat.add_zero, Nat.sub_zero, Nat.le_refl, Nat.add_sub_cancel, fu_at, fu_ne, iN_nz, n10_f, n01_f, ofN, qq_at_100, k110b, Nat.lt_irrefl, Nat.not_lt_zero, ne_eq, not_false_eq_true, not_true_eq_false, k0, q1, b_291_5, b_291_9, b_291_11, thT k0 m70]
    rfl
  | true =>
    rw [hx, b01_t] at q1
    obtain ⟨j, hj0, hj, rfl⟩ := (inB_iff (by omega) (by omega)).mp hx
    rw [if_pos rfl, tn_iN (by omega)]
    have hm := wS_M hw
    obtain ⟨J, q3, q4, q5⟩ := c_reckons (d := d) (I := up_2 I m 7 (iN 0)) (bl := m_bl (s_M (g_S C))) h.1 (hR7 (iN 0)).2.2.2.2.2.2.2.2.2.2.2.2.2.2 hm
    have q7 := c_fewestM (d := d + 1) (I := J) k0 r5 g6 (w := 20) (a := j) (by omega) hj
    rw [q4 20 _ (by omega) hj] at q7
    have hfM : fM (m_bl (s_M (g_S C))) 20 j ≤ 999 := Nat.min_le_left _ _
    have hfb := @fw_bd (m_bl (s_M (g_S C))) 20 j hj
    have hpn : ∀ n, PN m I (up_2 J m 7 (iN n)) τ B n C := fun n => PN_o h (fun k h1 h2 => by rw [up_k h1, q5 m (by omega), up_k h1]) (fun k hk => by rw [up_c (by omega), q5 _ (by omega), up_c (by omega)]) (fun a h1 h2 h3 h4 => by rw [up_c h1, q5 a h4, up_c h1]) up_at
    by_cases hf : fw (m_bl (s_M (g_S C))) 20 j = 1000
    · have e9 : fM (m_bl (s_M (g_S C))) 20 j = 999 := by unfold fM; rw [hf]; rfl
      rw [e9] at q7
      rw [if_pos hf]
      refine ⟨up_2 J m 7 (iN 2), ?_, hpn 2⟩
      rw [c_291, b_291_0]
      simp (disch := omega) only [rd_I_mk, rd_R_mk, rd_L_mk, rd_D_mk, kd_mk, wr_I_mk, cp_mk, gd_true, bd_ret, bd_thr, vl_none, vl_some, iN_add, iN_mul, iN_sub, iN_lt, iN_eq, iN_n, iN_m1, iN_pred, vp_iN, K0_le, nr_b0, nr_b1, m1_lt, lt_m1, iN_ne_m1, m1_ne_iN, not_lt_z, true_and, and_true, and_self, or_true, true_or, or_false, false_or, if_true, if_false, ↓reduceIte, eq_self, up_at, up_a, up_k, cp_c, cp_b, Nat.zero_add, Nat.add_zero, Nat.sub_zero, Nat.le_refl, Nat.add_sub_cancel, fu_at, fu_ne, iN_nz, n10_f, n01_f, ofN, qq_at_100, k110b, Nat.lt_irrefl, Nat.not_lt_zero, ne_eq, not_false_eq_true, not_true_eq_false, k0, q1, b_291_5, b_291_9, b_291_11, thF k0 m70, q3, b_291_16, q7, b_291_20, Nat.lt_irrefl, b_291_28, thT k0 m70, b_291_30, b_291_34]
      rfl
    · have hlt : fw (m_bl (s_M (g_S C))) 20 j < 999 := by omega
      have e9 : fM (m_bl (s_M (g_S C))) 20 j = fw (m_bl (s_M (g_S C))) 20 j := Nat.min_eq_right (by omega)
      rw [e9] at q7
      rw [if_neg hf]
      refine ⟨up_2 J m 7 (iN 0), ?_, hpn 0⟩
      rw [c_291, b_291_0]
      simp (disch := omega) only [rd_I_mk, rd_R_mk, rd_L_mk, rd_D_mk, kd_mk, wr_I_mk, cp_mk, gd_true, bd_ret, bd_thr, vl_none, vl_some, iN_add, iN_mul, iN_sub, iN_lt, iN_eq, iN_n, iN_m1, iN_pred, vp_iN, K0_le, nr_b0, nr_b1, m1_lt, lt_m1, iN_ne_m1, m1_ne_iN, not_lt_z, true_and, and_true, and_self, or_true, true_or, or_false, false_or, if_true, if_false, ↓reduceIte, eq_self, up_at, up_a, up_k, cp_c, cp_b, Nat.zero_add, Nat.add_zero, Nat.sub_zero, Nat.le_refl, Nat.add_sub_cancel, fu_at, fu_ne, iN_nz, n10_f, n01_f, ofN, qq_at_100, k110b, Nat.lt_irrefl, Nat.not_lt_zero, ne_eq, not_false_eq_true, not_true_eq_false, k0, q1, b_291_5, b_291_9, b_291_11, thF k0 m70, q3, b_291_16, q7, b_291_20, hlt, b_291_28, thF k0 m70, b_291_30, b_291_34]
      rfl
theorem n_fewest (h : R_N I τ m B C) (x : Int32) : NQ d 291 [.ref m, .int x] I τ m B (qv (q_fewest (g_S C) x)) (qc [1, 4] (q_fewest (g_S C) x)) C := s_fewest (d := d + 38) h x
theorem n_fewestBySearch (h : R_N I τ m B C) (x : Int32) : NQ d 292 [.ref m, .int x] I τ m B (qv (q_fewest (g_S C) x)) (qc [1, 4] (q_fewest (g_S C) x)) C := by
  obtain ⟨I', t1, t2⟩ := s_fewest (d := d + 37) h x
  refine ⟨I', ?_, t2⟩
  have k0 := h.1.2.1
  rw [c_292, b_292_0]
  simp (disch := omega) only [rd_I_mk, rd_R_mk, rd_L_mk, rd_D_mk, kd_mk, wr_I_mk, cp_mk, gd_true, bd_ret, bd_thr, vl_none, vl_some, iN_add, iN_mul, iN_sub, iN_lt, iN_eq, iN_n, iN_m1, iN_pred, vp_iN, K0_le, nr_b0, nr_b1, m1_lt, lt_m1, iN_ne_m1, m1_ne_iN, not_lt_z, true_and, and_true, and_self, or_true, true_or, or_false, false_or, if_true, if_false, ↓reduceIte, eq_self, up_at, up_a, up_k, cp_c, cp_b, Nat.zero_add, Nat.add_zero, Nat.sub_zero, Nat.le_refl, Nat.add_sub_cancel, fu_at, fu_ne, iN_nz, n10_f, n01_f, ofN, qq_at_100, k110b, Nat.lt_irrefl, Nat.not_lt_zero, ne_eq, not_false_eq_true, not_true_eq_false, k0, t1, b_292_3]
theorem n_marbleTotal (h : R_N I τ m B C) : NQ d 294 [.ref m] I τ m B (sA (fun w => iN (m_bl (s_M (g_S C)) w)) 20 + m_tr (s_M (g_S C))) 0 C := by
  have q := c_worth (d := d + 39) (I := up_2 I m 7 (iN 0)) h.1 (R_F_7 h.2.1)
  obtain ⟨m70, k0, -⟩ := h.1
  refine ⟨up_2 I m 7 (iN 0), ?_, PN_7 h⟩
  rw [c_294, b_294_0, Int32.add_comm]
  simp (disch := omega) only [rd_I_mk, rd_R_mk, rd_L_mk, rd_D_mk, kd_mk, wr_I_mk, cp_mk, gd_true, bd_ret, bd_thr, vl_none, vl_some, iN_add, iN_mul, iN_sub, iN_lt, iN_eq, iN_n, iN_m1, iN_pred, vp_iN, K0_le, nr_b0, nr_b1, m1_lt, lt_m1, iN_ne_m1, m1_ne_iN, not_lt_z, true_and, and_true, and_self, or_true, true_or, or_false, false_or, if_true, if_false, ↓reduceIte, eq_self, up_at, up_a, up_k, cp_c, cp_b, Nat.zero_add, Nat.add_zero, Nat.sub_zero, Nat.le_refl, Nat.add_sub_cancel, fu_at, fu_ne, iN_nz, n10_f, n01_f, ofN, qq_at_100, k110b, Nat.lt_irrefl, Nat.not_lt_zero, ne_eq, not_false_eq_true, not_true_eq_false, k0, b_294_3, q, b_294_5]
theorem n_isConsistent (h : R_N I τ m B C) : NQ d 303 [.ref m] I τ m B (b01 (decide ((gr (s_U (g_S C)) (fnt (g_S C)) (un (s_U (g_S C)))).sum = mxs (vset (s_U (g_S C)) (fnt (g_S C))) (2 ^ un (s_U (g_S C)))))) 0 C := by
  have q := c_worth (d := d + 39) (I := up_2 I m 7 (iN 0)) h.1 (R_F_7 h.2.1)
  have h3 : up_2 I m 7 (iN 0) (m + 1) 3 = m_ad (s_M (g_S C)) := (R_F_7 (m := m) (v := iN 0) h.2.1).2.2.2.1
  have hc := h.2.2.1.2.2.2.2.2.2.2.2
  rw [Int32.add_comm] at hc
  have t := c_stand (d := d + 38) (I := up_2 I m 7 (iN 0)) h.1 (R_F_7 h.2.1) h.2.2.1 (p_ns (s_P (g_S C))) 0 (Nat.zero_add _)
  rw [Int32.add_comm, hc] at q
  obtain ⟨m70, k0, r0, r1, r2, r3, r4, r5, -, -, -, g1, -⟩ := h.1
  rw [decide_eq_true (gr_mxs _ _), b01_t]
  refine ⟨up_2 I m 7 (iN 0), ?_, PN_7 h⟩
  rw [c_303, b_303_0]
  simp (disch := omega) only [rd_I_mk, rd_R_mk, rd_L_mk, rd_D_mk, kd_mk, wr_I_mk, cp_mk, gd_true, bd_ret, bd_thr, vl_none, vl_some, iN_add, iN_mul, iN_sub, iN_lt, iN_eq, iN_n, iN_m1, iN_pred, vp_iN, K0_le, nr_b0, nr_b1, m1_lt, lt_m1, iN_ne_m1, m1_ne_iN, not_lt_z, true_and, and_true, and_self, or_true, true_or, or_false, false_or, if_true, if_false, ↓reduceIte, eq_self, up_at, up_a, up_k, cp_c, cp_b, Nat.zero_add, Nat.add_zero, Nat.sub_zero, Nat.le_refl, Nat.add_sub_cancel, fu_at, fu_ne, iN_nz, n10_f, n01_f, ofN, qq_at_100, k110b, Nat.lt_irrefl, Nat.not_lt_zero, ne_eq, not_false_eq_true, not_true_eq_false, k0, b_303_3, q, b_303_5, r0, g1, h3, b_303_13]
  exact t
/-- what the mean weight is told as -/
theorem n_meanWeight (h : R_N I τ m B C) : ∃ I', CC (d + 40) 301 [.ref m] (I, τ) = some (.inl (some (.double (match q_mean (g_S C) with
    | none => FP.dconst0
    | some x => x))), (I', τ)) ∧ PN m I I' τ B (match q_mean (g_S C) with
    | none => 1
    | some _ => 0) C := by
  have hL := h.1
  have hR := h.2.1
  have hw := h.2.2.1
  have hR7 : ∀ v, R_F (up_2 I m 7 v (m + 1)) (g_S C) := fun v => R_F_7 hR
  obtain ⟨m70, k0, r0, r1, r2, r3, r4, r5, -, -, -, g1, -⟩ := hL
  have w2 := hw.2.1.2.1
  have h9 := hR.2.2.2.2.2.2.2.2.2.1
  have h97 := (hR7 (iN 0)).2.2.2.2.2.2.2.2.2.1
  have hwe : ∀ k, k < p_ns (s_P (g_S C)) → p_we (s_P (g_S C)) k ≤ 99 := fun k hk => (hw.2.1.2.2.2.1 k hk).2.1
  have hs := su_le (f := p_we (s_P (g_S C))) (B := 99) (p_ns (s_P (g_S C))) hwe
  have lp : ∀ n k, k + n = p_ns (s_P (g_S C)) → RR (d + 40) 301 4 [some (.ref m), some (.int (iN (su (p_we (s_P (g_S C))) k))), some (.int (iN k))] [] (I, τ) = RR (d + 40) 301 4 [some (.ref m), some (.int (iN (su (p_we (s_P (g_S C))) (p_ns (s_P (g_S C)))))), some (.int (iN (p_ns (s_P (g_S C)))))] [] (I, τ) := by
    intro n
    induction n with
    | zero =>
      intro k hk
      have hk : k = p_ns (s_P (g_S C)) := hk
      rw [hk]
    | succ n ih =>
      intro k hk
      have e : k < p_ns (s_P (g_S C)) := by omega
      have q := c_ofStatue (d := d + 39) (I := I) k0 r0 g1 (k := k) (w := 2) (by omega) (by omega)
      rw [(hR.2.2.2.2.2.2.2.2.2.2.2.2.1 k e).2.2] at q
      rw [← ih (k + 1) (by omega), b_301_4]
      simp (disch := omega) only [rd_I_mk, rd_R_mk, rd_L_mk, rd_D_mk, kd_mk, wr_I_mk, cp_mk, gd_true, bd_ret, bd_thr, vl_none, vl_some, iN_add, iN_mul, iN_sub, iN_lt, iN_eq, iN_n, iN_m1, iN_pred, vp_iN, K0_le, nr_b0, nr_b1, m1_lt, lt_m1, iN_ne_m1, m1_ne_iN, not_lt_z, true_and, and_true, and_self, or_true, true_or, or_false, false_or, if_true, if_false, ↓reduceIte, eq_self, up_at, up_a, up_k, cp_c, cp_b, Nat.zero_add, Nat.add_zero, Nat.sub_zero, Nat.le_refl, Nat.add_sub_cancel, fu_at, fu_ne, iN_nz, n10_f, n01_f, ofN, qq_at_100, k110b, Nat.lt_irrefl, Nat.not_lt_zero, ne_eq, not_false_eq_true, not_true_eq_false, k0, r0, g1, h9, e, q, b_301_15]
      rfl
  have l0 := lp (p_ns (s_P (g_S C))) 0 (Nat.zero_add _)
  have l0 : RR (d + 40) 301 4 [some (.ref m), some (.int (iN 0)), some (.int (iN 0))] [] (I, τ) = RR (d + 40) 301 4 [some (.ref m), some (.int (iN (su (p_we (s_P (g_S C))) (p_ns (s_P (g_S C)))))), some (.int (iN (p_ns (s_P (g_S C)))))] [] (I, τ) := l0
  unfold q_mean
  by_cases z : p_ns (s_P (g_S C)) = 0
  · rw [if_pos z]
    have e : (iN (p_ns (s_P (g_S C))) = iN 0) = True := (iN_eq (by omega) (by omega)).trans (eq_true z)
    refine ⟨up_2 I m 7 (iN 1), ?_, PN_7 h⟩
    rw [c_301, b_301_0, l0, b_301_4]
    simp (disch := omega) only [rd_I_mk, rd_R_mk, rd_L_mk, rd_D_mk, kd_mk, wr_I_mk, cp_mk, gd_true, bd_ret, bd_thr, vl_none, vl_some, iN_add, iN_mul, iN_sub, iN_lt, iN_eq, iN_n, iN_m1, iN_pred, vp_iN, K0_le, nr_b0, nr_b1, m1_lt, lt_m1, iN_ne_m1, m1_ne_iN, not_lt_z, true_and, and_true, and_self, or_true, true_or, or_false, false_or, if_true, if_false, ↓reduceIte, eq_self, up_at, up_a, up_k, cp_c, cp_b, Nat.zero_add, Nat.add_zero, Nat.sub_zero, Nat.le_refl, Nat.add_sub_cancel, fu_at, fu_ne, iN_nz, n10_f, n01_f, ofN, qq_at_100, k110b, Nat.lt_irrefl, Nat.not_lt_zero, ne_eq, not_false_eq_true, not_true_eq_false, k0, r0, g1, h9, Nat.lt_irrefl, e, b_301_28, thT k0 m70, b_301_30, b_301_41]
  · rw [if_neg z]
    have e : (iN (p_ns (s_P (g_S C))) = iN 0) = False := (iN_eq (by omega) (by omega)).trans (eq_false z)
    have hn := eq_true (nn64_ok (s := su (p_we (s_P (g_S C))) (p_ns (s_P (g_S C)))) (n := p_ns (s_P (g_S C))) (by omega) (by omega) w2)
    refine ⟨up_2 I m 7 (iN 0), ?_, PN_7 h⟩
    rw [c_301, b_301_0, l0, b_301_4]
    simp (disch := omega) only [rd_I_mk, rd_R_mk, rd_L_mk, rd_D_mk, kd_mk, wr_I_mk, cp_mk, gd_true, bd_ret, bd_thr, vl_none, vl_some, iN_add, iN_mul, iN_sub, iN_lt, iN_eq, iN_n, iN_m1, iN_pred, vp_iN, K0_le, nr_b0, nr_b1, m1_lt, lt_m1, iN_ne_m1, m1_ne_iN, not_lt_z, true_and, and_true, and_self, or_true, true_or, or_false, false_or, if_true, if_false, ↓reduceIte, eq_self, up_at, up_a, up_k, cp_c, cp_b, Nat.zero_add, Nat.add_zero, Nat.sub_zero, Nat.le_refl, Nat.add_sub_cancel, fu_at, fu_ne, iN_nz, n10_f, n01_f, ofN, qq_at_100, k110b, Nat.lt_irrefl, Nat.not_lt_zero, ne_eq, not_false_eq_true, not_true_eq_false, k0, r0, g1, h9, h97, Nat.lt_irrefl, e, b_301_28, thF k0 m70, b_301_30, hn, b_301_41]
theorem n_homeShare (h : R_N I τ m B C) : ∃ I', CC (d + 40) 302 [.ref m] (I, τ) = some (.inl (some (.float (match q_share (g_S C) with
    | none => FP.fconst0
    | some x => x))), (I', τ)) ∧ PN m I I' τ B (match q_share (g_S C) with
    | none => 1
    | some _ => 0) C := by
  have hL := h.1
  have hR := h.2.1
  have hw := h.2.2.1
  have hR7 : ∀ v, R_F (up_2 I m 7 v (m + 1)) (g_S C) := fun v => R_F_7 hR
  obtain ⟨m70, k0, r0, r1, r2, r3, r4, r5, -, -, -, g1, -⟩ := hL
  have w2 := hw.2.1.2.1
  have h9 := hR.2.2.2.2.2.2.2.2.2.1
  have h97 := (hR7 (iN 0)).2.2.2.2.2.2.2.2.2.1
  have hs := @cn_le (fun k => p_pl (s_P (g_S C)) k == p_ho (s_P (g_S C)) k) (p_ns (s_P (g_S C)))
  have lp : ∀ n k, k + n = p_ns (s_P (g_S C)) → RR (d + 40) 302 4 [some (.ref m), some (.int (iN (cn (fun k => p_pl (s_P (g_S C)) k == p_ho (s_P (g_S C)) k) k))), some (.int (iN k))] [] (I, τ) = RR (d + 40) 302 4 [some (.ref m), some (.int (iN (cn (fun k => p_pl (s_P (g_S C)) k == p_ho (s_P (g_S C)) k) (p_ns (s_P (g_S C)))))), some (.int (iN (p_ns (s_P (g_S C)))))] [] (I, τ) := by
    intro n
    induction n with
    | zero =>
      intro k hk
      have hk : k = p_ns (s_P (g_S C)) := hk
      rw [hk]
    | succ n ih =>
      intro k hk
      have e : k < p_ns (s_P (g_S C)) := by omega
      have q := c_home2 (d := d + 38) h.1 hR hw (x := k) e
      unfold hmB at q
      rw [← ih (k + 1) (by omega), b_302_4]
      cases hb : (p_pl (s_P (g_S C)) k == p_ho (s_P (g_S C)) k) with
      | true =>
        have ec : cn (fun k => p_pl (s_P (g_S C)) k == p_ho (s_P (g_S C)) k) (k + 1) = cn (fun k => p_pl (s_P (g_S C)) k == p_ho (s_P (g_S C)) k) k + 1 := cn_y (f := fun k => p_pl (s_P (g_S C)) k == p_ho (s_P (g_S C)) k) hb
        rw [hb, b01_t] at q
        rw [ec]
        simp (disch := omega) only [rd_I_mk, rd_R_mk, rd_L_mk, rd_D_mk, kd_mk, wr_I_mk, cp_mk, gd_true, bd_ret, bd_thr, vl_none, vl_some, iN_add, iN_mul, iN_sub, iN_lt, iN_eq, iN_n, iN_m1, iN_pred, vp_iN, K0_le, nr_b0, nr_b1, m1_lt, lt_m1, iN_ne_m1, m1_ne_iN, not_lt_z, true_and, and_true, and_self, or_true, true_or, or_false, false_or, if_true, if_false, ↓reduceIte, eq_self, up_at, up_a, up_k, cp_c, cp_b, Nat.zero_add, Nat.add_zero, Nat.sub_zero, Nat.le_refl, Nat.add_sub_cancel, fu_at, fu_ne, iN_nz, n10_f, n01_f, ofN, qq_at_100, k110b, Nat.lt_irrefl, Nat.not_lt_zero, ne_eq, not_false_eq_true, not_true_eq_false, k0, r0, g1, h9, e, q, b_302_14, b_302_18]
      | false =>
        have ec : cn (fun k => p_pl (s_P (g_S C)) k == p_ho (s_P (g_S C)) k) (k + 1) = cn (fun k => p_pl (s_P (g_S C)) k == p_ho (s_P (g_S C)) k) k := cn_n (f := fun k => p_pl (s_P (g_S C)) k == p_ho (s_P (g_S C)) k) (by rw [hb]; decide)
        rw [hb, b01_f] at q
        rw [ec]
        simp (disch := omega) only [rd_I_mk, rd_R_mk, rd_L_mk, rd_D_mk, kd_mk, wr_I_mk, cp_mk, gd_true, bd_ret, bd_thr, vl_none, vl_some, iN_add, iN_mul, iN_sub, iN_lt, iN_eq, iN_n, iN_m1, iN_pred, vp_iN, K0_le, nr_b0, nr_b1, m1_lt, lt_m1, iN_ne_m1, m1_ne_iN, not_lt_z, true_and, and_true, and_self, or_true, true_or, or_false, false_or, if_true, if_false, ↓reduceIte, eq_self, up_at, up_a, up_k, cp_c, cp_b, Nat.zero_add, Nat.add_zero, Nat.sub_zero, Nat.le_refl, Nat.add_sub_cancel, fu_at, fu_ne, iN_nz, n10_f, n01_f, ofN, qq_at_100, k110b, Nat.lt_irrefl, Nat.not_lt_zero, ne_eq, not_false_eq_true, not_true_eq_false, k0, r0, g1, h9, e, q, b_302_14, b_302_18]
  have l0 := lp (p_ns (s_P (g_S C))) 0 (Nat.zero_add _)
  have l0 : RR (d + 40) 302 4 [some (.ref m), some (.int (iN 0)), some (.int (iN 0))] [] (I, τ) = RR (d + 40) 302 4 [some (.ref m), some (.int (iN (cn (fun k => p_pl (s_P (g_S C)) k == p_ho (s_P (g_S C)) k) (p_ns (s_P (g_S C)))))), some (.int (iN (p_ns (s_P (g_S C)))))] [] (I, τ) := l0
  unfold q_share
  by_cases z : p_ns (s_P (g_S C)) = 0
  · rw [if_pos z]
    have e : (iN (p_ns (s_P (g_S C))) = iN 0) = True := (iN_eq (by omega) (by omega)).trans (eq_true z)
    refine ⟨up_2 I m 7 (iN 1), ?_, PN_7 h⟩
    rw [c_302, b_302_0, l0, b_302_4]
    simp (disch := omega) only [rd_I_mk, rd_R_mk, rd_L_mk, rd_D_mk, kd_mk, wr_I_mk, cp_mk, gd_true, bd_ret, bd_thr, vl_none, vl_some, iN_add, iN_mul, iN_sub, iN_lt, iN_eq, iN_n, iN_m1, iN_pred, vp_iN, K0_le, nr_b0, nr_b1, m1_lt, lt_m1, iN_ne_m1, m1_ne_iN, not_lt_z, true_and, and_true, and_self, or_true, true_or, or_false, false_or, if_true, if_false, ↓reduceIte, eq_self, up_at, up_a, up_k, cp_c, cp_b, Nat.zero_add, Nat.add_zero, Nat.sub_zero, Nat.le_refl, Nat.add_sub_cancel, fu_at, fu_ne, iN_nz, n10_f, n01_f, ofN, qq_at_100, k110b, Nat.lt_irrefl, Nat.not_lt_zero, ne_eq, not_false_eq_true, not_true_eq_false, k0, r0, g1, h9, Nat.lt_irrefl, e, b_302_31, thT k0 m70, b_302_33, b_302_44]
  · rw [if_neg z]
    have e : (iN (p_ns (s_P (g_S C))) = iN 0) = False := (iN_eq (by omega) (by omega)).trans (eq_false z)
    have hn := eq_true (nn32_ok (s := cn (fun k => p_pl (s_P (g_S C)) k == p_ho (s_P (g_S C)) k) (p_ns (s_P (g_S C)))) (n := p_ns (s_P (g_S C))) (by omega) (by omega) w2)
    refine ⟨up_2 I m 7 (iN 0), ?_, PN_7 h⟩
    rw [c_302, b_302_0, l0, b_302_4]
    simp (disch := omega) only [rd_I_mk, rd_R_mk, rd_L_mk, rd_D_mk, kd_mk, wr_I_mk, cp_mk, gd_true, bd_ret, bd_thr, vl_none, vl_some, iN_add, iN_mul, iN_sub, iN_lt, iN_eq, iN_n, iN_m1, iN_pred, vp_iN, K0_le, nr_b0, nr_b1, m1_lt, lt_m1, iN_ne_m1, m1_ne_iN, not_lt_z, true_and, and_true, and_self, or_true, true_or, or_false, false_or, if_true, if_false, ↓reduceIte, eq_self, up_at, up_a, up_k, cp_c, cp_b, Nat.zero_add, Nat.add_zero, Nat.sub_zero, Nat.le_refl, Nat.add_sub_cancel, fu_at, fu_ne, iN_nz, n10_f, n01_f, ofN, qq_at_100, k110b, Nat.lt_irrefl, Nat.not_lt_zero, ne_eq, not_false_eq_true, not_true_eq_false, k0, r0, g1, h9, h97, Nat.lt_irrefl, e, b_302_31, thF k0 m70, b_302_33, hn, b_302_44]
end MF2
