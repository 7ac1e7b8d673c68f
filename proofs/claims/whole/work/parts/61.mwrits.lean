/-! THE MODEL: writs come -/
theorem up_up {I : qq_I} {a k : Nat} {v w : Int32} : up_2 (up_2 I a k v) a k w = up_2 I a k w := by
  funext b j
  by_cases h : b = a ∧ j = k
  · rw [h.1, h.2, up_at, up_at]
  · exact (if_neg h).trans ((if_neg h).trans (if_neg h).symm)
section MW
variable {d : Nat} {I : qq_I} {τ : qq_R} {m B : Nat} {S : sS}
theorem c_isNoWrit (hL : L_N τ m) (hR : R_F (I (m + 1)) S) (hw : wS B S) (x n y : Int32) : CC (d + 2) 231 [.ref m, .int x, .int n, .int y] (I, τ) = some (.inl (some (.int (b01 (!(ft_arg S x n y == 45))))), (up_2 I m 7 (iN (tc [105, 97] (ft_arg S x n y))), τ)) := by
  have hL0 := hL
  have q1 := c_isStatue (d := d) hL hR hw x
  obtain ⟨m70, k0, r0, -, -, -, -, -, -, -, -, g1, -⟩ := hL
  unfold ft_arg
  rw [c_231, b_231_0]
  cases hx : inN (p_ns (s_P S)) x with
  | false =>
    rw [hx, b01_f] at q1
    simp only [if_true]
    simp (disch := omega) only [rd_I_mk, rd_R_mk, rd_L_mk, rd_D_mk, kd_mk, wr_I_mk, cp_mk, gd_true, bd_ret, bd_thr, vl_none, vl_some, iN_add, iN_mul, iN_sub, iN_lt, iN_eq, iN_n, iN_m1, iN_pred, vp_iN, K0_le, nr_b0, nr_b1, m1_lt, lt_m1, iN_ne_m1, m1_ne_iN, not_lt_z, true_and, and_true, and_self, or_true, true_or, or_false, false_or, if_true, if_false, ↓reduceIte, eq_self, up_at, up_a, up_k, cp_c, cp_b, Nat.zero_add, Nat.add_zero, Nat.sub_zero, Nat.le_refl, Nat.add_sub_cancel, fu_at, fu_ne, iN_nz, n10_f, n01_f, ofN, qq_at_100, k110b, Nat.lt_irrefl, Nat.not_lt_zero, ne_eq, not_false_eq_true, not_true_eq_false, k0, q1, b_231_4, b_231_8, thT k0 m70, b_231_10, b_231_28, b_231_31]
    rfl
  | true =>
    rw [hx, b01_t] at q1
    simp only [Bool.true_eq_false, if_false]
    have q2 := c_isIn (d := d + 1) (I := up_2 I m 7 (iN 0)) (τ := τ) (x := n) (lo := iN 0) (hi := iN 20)
    have q3 := c_isIn (d := d + 1) (I := up_2 I m 7 (iN 0)) (τ := τ) (x := y) (lo := iN 1) (hi := iN 60)
    rw [inB_eq] at q2 q3
    cases hn : inB 0 20 n with
    | false =>
      rw [hn, b01_f] at q2
      simp only [Bool.false_and, Bool.false_eq_true, if_false]
      simp (disch := omega) only [rd_I_mk, rd_R_mk, rd_L_mk, rd_D_mk, kd_mk, wr_I_mk, cp_mk, gd_true, bd_ret, bd_thr, vl_none, vl_some, iN_add, iN_mul, iN_sub, iN_lt, iN_eq, iN_n, iN_m1, iN_pred, vp_iN, K0_le, nr_b0, nr_b1, m1_lt, lt_m1, iN_ne_m1, m1_ne_iN, not_lt_z, true_and, and_true, and_self, or_true, true_or, or_false, false_or, if_true, if_false, ↓reduceIte, eq_self, up_at, up_a, up_k, cp_c, cp_b, Nat.zero_add, Nat.add_zero, Nat.sub_zero, Nat.le_refl, Nat.add_sub_cancel, fu_at, fu_ne, iN_nz, n10_f, n01_f, ofN, qq_at_100, k110b, Nat.lt_irrefl, Nat.not_lt_zero, ne_eq, not_false_eq_true, not_true_eq_false, k0, q1, b_231_4, b_231_8, thF k0 m70, b_231_10, q2, b_231_16, b_231_22, b_231_25, thT k0 m70, up_up, b_231_27, b_231_28, b_231_31]
      rfl
    | true =>
      rw [hn, b01_t] at q2
      cases hy : inB 1 60 y with
      | false =>
        rw [hy, b01_f] at q3
        simp only [Bool.true_and, Bool.false_eq_true, if_false]
        simp (disch := omega) only [rd_I_mk, rd_R_mk, rd_L_mk, rd_D_mk, kd_mk, wr_I_mk, cp_mk, gd_true, bd_ret, bd_thr, vl_none, vl_some, iN_add, iN_mul, iN_sub, iN_lt, iN_eq, iN_n, iN_m1, iN_pred, vp_iN, K0_le, nr_b0, nr_b1, m1_lt, lt_m1, iN_ne_m1, m1_ne_iN, not_lt_z, true_and, and_true, and_self, or_true, true_or, or_false, false_or, if_true, if_false, ↓reduceIte, eq_self, up_at, up_a, up_k, cp_c, cp_b, Nat.zero_add, Nat.add_zero, Nat.sub_zero, Nat.le_refl, Nat.add_sub_cancel, fu_at, fu_ne, iN_nz, n10_f, n01_f, ofN, qq_at_100, k110b, Nat.lt_irrefl, Nat.not_lt_zero, ne_eq, not_false_eq_true, not_true_eq_false, k0, q1, b_231_4, b_231_8, thF k0 m70, b_231_10, q2, b_231_16, q3, b_231_21, b_231_22, b_231_25, thT k0 m70, up_up, b_231_27, b_231_28, b_231_31]
        rfl
      | true =>
        rw [hy, b01_t] at q3
        simp only [Bool.and_self, if_true]
        simp (disch := omega) only [rd_I_mk, rd_R_mk, rd_L_mk, rd_D_mk, kd_mk, wr_I_mk, cp_mk, gd_true, bd_ret, bd_thr, vl_none, vl_some, iN_add, iN_mul, iN_sub, iN_lt, iN_eq, iN_n, iN_m1, iN_pred, vp_iN, K0_le, nr_b0, nr_b1, m1_lt, lt_m1, iN_ne_m1, m1_ne_iN, not_lt_z, true_and, and_true, and_self, or_true, true_or, or_false, false_or, if_true, if_false, ↓reduceIte, eq_self, up_at, up_a, up_k, cp_c, cp_b, Nat.zero_add, Nat.add_zero, Nat.sub_zero, Nat.le_refl, Nat.add_sub_cancel, fu_at, fu_ne, iN_nz, n10_f, n01_f, ofN, qq_at_100, k110b, Nat.lt_irrefl, Nat.not_lt_zero, ne_eq, not_false_eq_true, not_true_eq_false, k0, q1, b_231_4, b_231_8, thF k0 m70, b_231_10, q2, b_231_16, q3, b_231_21, b_231_25, up_up, b_231_27, b_231_31]
        rfl
/-- the row behind a new writ -/
def uW (I : qq_I) (m k : Nat) (id of la ba ca : Int32) (n10 n7 : Int32) : qq_I := up_2 (up_2 (up_2 (up_2 (up_2 (up_2 (up_2 (up_2 I (m + 1) (37 + 6 * k + 0) id) (m + 1) (37 + 6 * k + 1) of) (m + 1) (37 + 6 * k + 2) la) (m + 1) (37 + 6 * k + 3) ba) (m + 1) (37 + 6 * k + 4) (iN 0)) (m + 1) (37 + 6 * k + 5) ca) (m + 1) 10 n10) (m + 1) 7 n7
theorem c_comes (hL : L_N τ m) (hR : R_F (I (m + 1)) S) (hw : wS B S) (hn : un (s_U S) < 8) {of n ba ca : Nat} (hca : ca < 2000000) : CC (d + 1) 230 [.ref m, .int (iN of), .int (iN n), .int (iN ba), .int (iN ca)] (I, τ) = some (.inl (some (.int (iN (unx (s_U S))))), (uW I m (un (s_U S)) (iN (unx (s_U S))) (iN of) (iN (s_ni S + n)) (iN ba) (iN ca) (iN (un (s_U S) + 1)) (iN (unx (s_U S) + 1)), τ)) ∧
    R_F (uW I m (un (s_U S)) (iN (unx (s_U S))) (iN of) (iN (s_ni S + n)) (iN ba) (iN ca) (iN (un (s_U S) + 1)) (iN (unx (s_U S) + 1)) (m + 1)) (opS S of n ba ca) := by
  obtain ⟨m70, k0, r0, -, -, -, -, -, -, -, -, g1, -⟩ := hL
  obtain ⟨h0, h1, h2, h3, h4, h5, h6, h7, h8, h9, h10, h11, h12, h13, h14⟩ := hR
  have w1 := hw.2.1.1
  have w2 := hw.2.1.2.1
  have w4 := hw.2.2.1.2.1
  have hla : iN (s_ni S) + iN n = iN (s_ni S + n) := iN_add _ _
  generalize hk : un (s_U S) = k at *
  generalize hla2 : iN (s_ni S + n) = la at *
  have t1 := c_sets (d := d) (I := I) k0 m70 r0 g1 (k := k) (w := 0) hn (by omega) (v := iN (unx (s_U S)))
  have t2 := c_sets (d := d) (I := up_2 I (m + 1) (37 + 6 * k + 0) (iN (unx (s_U S)))) k0 m70 r0 g1 (k := k) (w := 1) hn (by omega) (v := iN of)
  have t3 := c_sets (d := d) (I := up_2 (up_2 I (m + 1) (37 + 6 * k + 0) (iN (unx (s_U S)))) (m + 1) (37 + 6 * k + 1) (iN of)) k0 m70 r0 g1 (k := k) (w := 2) hn (by omega) (v := la)
  have t4 := c_sets (d := d) (I := up_2 (up_2 (up_2 I (m + 1) (37 + 6 * k + 0) (iN (unx (s_U S)))) (m + 1) (37 + 6 * k + 1) (iN of)) (m + 1) (37 + 6 * k + 2) la) k0 m70 r0 g1 (k := k) (w := 3) hn (by omega) (v := iN ba)
  have t5 := c_sets (d := d) (I := up_2 (up_2 (up_2 (up_2 I (m + 1) (37 + 6 * k + 0) (iN (unx (s_U S)))) (m + 1) (37 + 6 * k + 1) (iN of)) (m + 1) (37 + 6 * k + 2) la) (m + 1) (37 + 6 * k + 3) (iN ba)) k0 m70 r0 g1 (k := k) (w := 4) hn (by omega) (v := iN 0)
  have t6 := c_sets (d := d) (I := up_2 (up_2 (up_2 (up_2 (up_2 I (m + 1) (37 + 6 * k + 0) (iN (unx (s_U S)))) (m + 1) (37 + 6 * k + 1) (iN of)) (m + 1) (37 + 6 * k + 2) la) (m + 1) (37 + 6 * k + 3) (iN ba)) (m + 1) (37 + 6 * k + 4) (iN 0)) k0 m70 r0 g1 (k := k) (w := 5) hn (by omega) (v := iN ca)
  have a0 : up_2 (up_2 I (m + 1) (37 + 6 * k + 0) (iN (unx (s_U S)))) (m + 1) (37 + 6 * k + 1) (iN of) (m + 1) 0 = iN (s_ni S) := by
    rw [up_k (by omega), up_k (by omega)]; exact h0
  constructor
  · rw [c_230, b_230_0]
    generalize hG6 : up_2 (up_2 (up_2 (up_2 (up_2 (up_2 I (m + 1) (37 + 6 * k + 0) (iN (unx (s_U S)))) (m + 1) (37 + 6 * k + 1) (iN of)) (m + 1) (37 + 6 * k + 2) la) (m + 1) (37 + 6 * k + 3) (iN ba)) (m + 1) (37 + 6 * k + 4) (iN 0)) (m + 1) (37 + 6 * k + 5) (iN ca) = G6 at *
    have a10 : G6 (m + 1) 10 = iN k := by
      rw [← hG6, up_k (by omega), up_k (by omega), up_k (by omega), up_k (by omega), up_k (by omega), up_k (by omega)]; exact h10
    have a7 : G6 (m + 1) 7 = iN (unx (s_U S)) := by
      rw [← hG6, up_k (by omega), up_k (by omega), up_k (by omega), up_k (by omega), up_k (by omega), up_k (by omega)]; exact h7
    unfold uW
    rw [hG6]
    have p1 : ∀ i, i < 106 → i < 2147483648 → vp_in (iN i) 106 = True := fun i h1 h2 => vp_iN h1 h2
    simp (disch := omega) only [kd_mk, rd_R_mk, rd_I_mk, wr_I_mk, k0, r0, g1, gd_true, true_and, and_true, and_self, p1, iN_n, h10, h7, t1, bd_ret, vl_none, vl_some, b_230_13, t2, b_230_18, a0, hla, t3, b_230_28, t4, b_230_33, t5, b_230_38, t6, b_230_43, a10, K0_le, iN_add, b_230_51, up_k, a7, b_230_59, up_at, iN_sub, Nat.add_sub_cancel]
  · unfold uW
    have hkk : k ≤ 7 := by omega
    refine ⟨?_, ?_, ?_, ?_, ?_, ?_, ?_, up_at, ?_, ?_, ?_, fun i hi => ?_, fun i hi => ?_, fun i hi => ?_, fun w hw => ?_⟩
    · rw [up_k (by omega), up_k (by omega), up_k (by omega), up_k (by omega), up_k (by omega), up_k (by omega), up_k (by omega), up_k (by omega)]; exact h0
    · rw [up_k (by omega), up_k (by omega), up_k (by omega), up_k (by omega), up_k (by omega), up_k (by omega), up_k (by omega), up_k (by omega)]; exact h1
    · rw [up_k (by omega), up_k (by omega), up_k (by omega), up_k (by omega), up_k (by omega), up_k (by omega), up_k (by omega), up_k (by omega)]; exact h2
    · rw [up_k (by omega), up_k (by omega), up_k (by omega), up_k (by omega), up_k (by omega), up_k (by omega), up_k (by omega), up_k (by omega)]; exact h3
    · rw [up_k (by omega), up_k (by omega), up_k (by omega), up_k (by omega), up_k (by omega), up_k (by omega), up_k (by omega), up_k (by omega)]; exact h4
    · rw [up_k (by omega), up_k (by omega), up_k (by omega), up_k (by omega), up_k (by omega), up_k (by omega), up_k (by omega), up_k (by omega)]; exact h5
    · rw [up_k (by omega), up_k (by omega), up_k (by omega), up_k (by omega), up_k (by omega), up_k (by omega), up_k (by omega), up_k (by omega)]; exact h6
    · rw [up_k (by omega), up_k (by omega), up_k (by omega), up_k (by omega), up_k (by omega), up_k (by omega), up_k (by omega), up_k (by omega)]; exact h8
    · rw [up_k (by omega), up_k (by omega), up_k (by omega), up_k (by omega), up_k (by omega), up_k (by omega), up_k (by omega), up_k (by omega)]; exact h9
    · rw [up_k (by omega), up_at]
      show _ = iN (un (su_open (s_U S) of (s_ni S + n) ba ca))
      rw [un_open, hk]
    · have hi : i < p_np (s_P S) := hi
      rw [up_k (by omega), up_k (by omega), up_k (by omega), up_k (by omega), up_k (by omega), up_k (by omega), up_k (by omega), up_k (by omega)]; exact h11 i hi
    · have hi : i < p_ns (s_P S) := hi
      obtain ⟨b1, b2, b3⟩ := h12 i hi
      exact ⟨by rw [up_k (by omega), up_k (by omega), up_k (by omega), up_k (by omega), up_k (by omega), up_k (by omega), up_k (by omega), up_k (by omega)]; exact b1, by rw [up_k (by omega), up_k (by omega), up_k (by omega), up_k (by omega), up_k (by omega), up_k (by omega), up_k (by omega), up_k (by omega)]; exact b2, by rw [up_k (by omega), up_k (by omega), up_k (by omega), up_k (by omega), up_k (by omega), up_k (by omega), up_k (by omega), up_k (by omega)]; exact b3⟩
    · have hi : i < un (su_open (s_U S) of (s_ni S + n) ba ca) := hi
      rw [un_open, hk] at hi
      have hug : ug (s_U (opS S of n ba ca)) i = if i < un (s_U S) then ug (s_U S) i else if i = un (s_U S) then (unx (s_U S), of, s_ni S + n, ba, 0, ca) else w0 := ug_open
      rw [hug, hk]
      by_cases y : i < k
      · rw [if_pos y]
        obtain ⟨b1, b2, b3, b4, b5, b6⟩ := h13 i y
        refine ⟨?_, ?_, ?_, ?_, ?_, ?_⟩
        · rw [up_k (by omega), up_k (by omega), up_k (by omega), up_k (by omega), up_k (by omega), up_k (by omega), up_k (by omega), up_k (by omega)]; exact b1
        · rw [up_k (by omega), up_k (by omega), up_k (by omega), up_k (by omega), up_k (by omega), up_k (by omega), up_k (by omega), up_k (by omega)]; exact b2
        · rw [up_k (by omega), up_k (by omega), up_k (by omega), up_k (by omega), up_k (by omega), up_k (by omega), up_k (by omega), up_k (by omega)]; exact b3
        · rw [up_k (by omega), up_k (by omega), up_k (by omega), up_k (by omega), up_k (by omega), up_k (by omega), up_k (by omega), up_k (by omega)]; exact b4
        · rw [up_k (by omega), up_k (by omega), up_k (by omega), up_k (by omega), up_k (by omega), up_k (by omega), up_k (by omega), up_k (by omega)]; exact b5
        · rw [up_k (by omega), up_k (by omega), up_k (by omega), up_k (by omega), up_k (by omega), up_k (by omega), up_k (by omega), up_k (by omega)]; exact b6
      · have y2 : i = k := by omega
        rw [if_neg y, if_pos y2, y2]
        refine ⟨?_, ?_, ?_, ?_, ?_, ?_⟩
        · rw [up_k (by omega), up_k (by omega), up_k (by omega), up_k (by omega), up_k (by omega), up_k (by omega), up_k (by omega)]; exact up_at
        · rw [up_k (by omega), up_k (by omega), up_k (by omega), up_k (by omega), up_k (by omega), up_k (by omega)]; exact up_at
        · rw [up_k (by omega), up_k (by omega), up_k (by omega), up_k (by omega), up_k (by omega), up_at]; exact hla2.symm
        · rw [up_k (by omega), up_k (by omega), up_k (by omega), up_k (by omega)]; exact up_at
        · rw [up_k (by omega), up_k (by omega), up_k (by omega)]; exact up_at
        · rw [up_k (by omega), up_k (by omega)]; exact up_at
    · rw [up_k (by omega), up_k (by omega), up_k (by omega), up_k (by omega), up_k (by omega), up_k (by omega), up_k (by omega), up_k (by omega)]; exact h14 w hw
end MW
