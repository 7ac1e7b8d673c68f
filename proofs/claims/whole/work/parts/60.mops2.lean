/-! THE MODEL: arrows, homes, statues, blocks -/
section MN
variable {d : Nat} {I : qq_I} {τ : qq_R} {m B : Nat} {S : sS}
theorem thF (hk : tK τ m = (13, 0)) (h70 : 70 ≤ m) {n : Nat} : CC d 213 [.ref m, .int (iN 0), .int (iN n)] (I, τ) = some (.inl (some (.int (iN 0))), (up_2 I m 7 (iN 0), τ)) := c_isThrown hk h70 (p := false)
theorem thT (hk : tK τ m = (13, 0)) (h70 : 70 ≤ m) {n : Nat} : CC d 213 [.ref m, .int (iN 1), .int (iN n)] (I, τ) = some (.inl (some (.int (iN 1))), (up_2 I m 7 (iN n), τ)) := c_isThrown hk h70 (p := true)
theorem m_arr (hL : L_N τ m) (hR : R_F (I (m + 1)) S) (hw : wS B S) (x y : Int32) : ∃ I', CC (d + 2) 224 [.ref m, .int x, .int y] (I, τ) = some (.inl (some (.int (mV (ft_arr S x y) (o_arr S x y).1))), (I', τ)) ∧ MC m I I' [105] (ft_arr S x y) S (o_arr S x y).2 := by
  have hR0 := hR
  have hL0 := hL
  have q1 := c_isPedestal (d := d) hL hR hw x
  have q2 := c_isPedestal (d := d) hL hR hw y
  obtain ⟨m70, k0, r0, -, -, -, -, -, -, -, -, g1, -⟩ := hL
  obtain ⟨h0, h1, h2, h3, h4, h5, h6, h7, h8, h9, h10, h11, h12, h13, h14⟩ := hR
  have w1 := hw.2.1.1
  have w2 := hw.2.1.2.1
  have w3 := hw.2.2.1.1
  unfold mV ft_arr
  cases hx : inN (p_np (s_P S)) x with
  | false =>
    rw [hx, b01_f] at q1
    simp only [Bool.false_and, Bool.false_eq_true, if_false]
    refine ⟨up_2 I m 7 (iN 1), ?_, MC_thr (R_F_7 hR0) MP_7 (by omega) up_at rfl⟩
    rw [c_224, b_224_0]
    simp (disch := omega) only [rd_I_mk, rd_R_mk, rd_L_mk, rd_D_mk, kd_mk, wr_I_mk, cp_mk, gd_true, bd_ret, bd_thr, vl_none, vl_some, iN_add, iN_mul, iN_sub, iN_lt, iN_eq, iN_n, iN_m1, iN_pred, vp_iN, K0_le, nr_b0, nr_b1, m1_lt, lt_m1, iN_ne_m1, m1_ne_iN, not_lt_z, true_and, and_true, and_self, or_true, true_or, or_false, false_or, if_true, if_false, ↓reduceIte, eq_self, up_at, up_a, up_k, cp_c, cp_b, Nat.zero_add, Nat.add_zero, Nat.sub_zero, Nat.le_refl, Nat.add_sub_cancel, fu_at, fu_ne, iN_nz, n10_f, n01_f, ofN, qq_at_100, k110b, Nat.lt_irrefl, Nat.not_lt_zero, ne_eq, not_false_eq_true, not_true_eq_false, k0, q1, b_224_4, b_224_9, b_224_12, thT k0 m70, b_224_14]
    rfl
  | true =>
    rw [hx, b01_t] at q1
    cases hy : inN (p_np (s_P S)) y with
    | false =>
      rw [hy, b01_f] at q2
      simp only [Bool.true_and, Bool.false_eq_true, if_false]
      refine ⟨up_2 I m 7 (iN 1), ?_, MC_thr (R_F_7 hR0) MP_7 (by omega) up_at rfl⟩
      rw [c_224, b_224_0]
      simp (disch := omega) only [rd_I_mk, rd_R_mk, rd_L_mk, rd_D_mk, kd_mk, wr_I_mk, cp_mk, gd_true, bd_ret, bd_thr, vl_none, vl_some, iN_add, iN_mul, iN_sub, iN_lt, iN_eq, iN_n, iN_m1, iN_pred, vp_iN, K0_le, nr_b0, nr_b1, m1_lt, lt_m1, iN_ne_m1, m1_ne_iN, not_lt_z, true_and, and_true, and_self, or_true, true_or, or_false, false_or, if_true, if_false, ↓reduceIte, eq_self, up_at, up_a, up_k, cp_c, cp_b, Nat.zero_add, Nat.add_zero, Nat.sub_zero, Nat.le_refl, Nat.add_sub_cancel, fu_at, fu_ne, iN_nz, n10_f, n01_f, ofN, qq_at_100, k110b, Nat.lt_irrefl, Nat.not_lt_zero, ne_eq, not_false_eq_true, not_true_eq_false, k0, q1, q2, b_224_4, b_224_8, b_224_9, b_224_12, thT k0 m70, b_224_14]
      rfl
    | true =>
      rw [hy, b01_t] at q2
      obtain ⟨j, hj, rfl⟩ := (inN_iff (by omega)).mp hx
      obtain ⟨i, hi, rfl⟩ := (inN_iff (by omega)).mp hy
      simp only [Bool.and_self, if_true]
      unfold o_arr
      rw [tn_iN (by omega), tn_iN (by omega)]
      have e : ∀ k, up_2 I m 7 (iN 0) (m + 1) k = I (m + 1) k := fun k => by rw [up_c (by omega)]
      refine ⟨up_2 (up_2 I m 7 (iN 0)) (m + 1) (11 + j) (iN i), ?_, ?_, ?_, MP_tr MP_7 MP_s⟩
      · have r := h11 j hj
        have re := e (11 + j)
        rw [c_224, b_224_0]
        simp (disch := omega) only [rd_I_mk, rd_R_mk, rd_L_mk, rd_D_mk, kd_mk, wr_I_mk, cp_mk, gd_true, bd_ret, bd_thr, vl_none, vl_some, iN_add, iN_mul, iN_sub, iN_lt, iN_eq, iN_n, iN_m1, iN_pred, vp_iN, K0_le, nr_b0, nr_b1, m1_lt, lt_m1, iN_ne_m1, m1_ne_iN, not_lt_z, true_and, and_true, and_self, or_true, true_or, or_false, false_or, if_true, if_false, ↓reduceIte, eq_self, up_at, up_a, up_k, cp_c, cp_b, Nat.zero_add, Nat.add_zero, Nat.sub_zero, Nat.le_refl, Nat.add_sub_cancel, fu_at, fu_ne, iN_nz, n10_f, n01_f, ofN, qq_at_100, k110b, Nat.lt_irrefl, Nat.not_lt_zero, ne_eq, not_false_eq_true, not_true_eq_false, k0, q1, q2, b_224_4, b_224_8, b_224_12, thF k0 m70, b_224_14, r0, g1, re, r, b_224_31]
      · rw [if_pos rfl]
        refine ⟨by rw [up_k (by omega), e]; exact h0, by rw [up_k (by omega), e]; exact h1, by rw [up_k (by omega), e]; exact h2, by rw [up_k (by omega), e]; exact h3, by rw [up_k (by omega), e]; exact h4, by rw [up_k (by omega), e]; exact h5, by rw [up_k (by omega), e]; exact h6, by rw [up_k (by omega), e]; exact h7, by rw [up_k (by omega), e]; exact h8, by rw [up_k (by omega), e]; exact h9, by rw [up_k (by omega), e]; exact h10, fun k hk => ?_, fun k hk => ?_, fun k hk => ?_, fun w hw => ?_⟩
        · show _ = iN (fu (p_ar (s_P S)) j i k)
          by_cases z : k = j
          · rw [z, up_at, fu_at]
          · rw [up_k (by omega), fu_ne z, e]; exact h11 k hk
        · have hk : k < p_ns (s_P S) := hk
          rw [up_k (by omega), up_k (by omega), up_k (by omega), e, e, e]; exact h12 k hk
        · have hk : k < un (s_U S) := hk
          rw [up_k (by omega), up_k (by omega), up_k (by omega), up_k (by omega), up_k (by omega), up_k (by omega), e, e, e, e, e, e]; exact h13 k hk
        · rw [up_k (by omega), e]; exact h14 w hw
      · rw [up_c (by omega), up_at]; rfl
theorem m_hom (hL : L_N τ m) (hR : R_F (I (m + 1)) S) (hw : wS B S) (x y : Int32) : ∃ I', CC (d + 2) 228 [.ref m, .int x, .int y] (I, τ) = some (.inl (some (.int (mV (ft_hom S x y) (o_hom S x y).1))), (I', τ)) ∧ MC m I I' [105] (ft_hom S x y) S (o_hom S x y).2 := by
  have hR0 := hR
  have hL0 := hL
  have q1 := c_isStatue (d := d) hL hR hw x
  have q2 := c_isPedestal (d := d) hL hR hw y
  obtain ⟨m70, k0, r0, -, -, -, -, -, -, -, -, g1, -⟩ := hL
  obtain ⟨h0, h1, h2, h3, h4, h5, h6, h7, h8, h9, h10, h11, h12, h13, h14⟩ := hR
  have w1 := hw.2.1.1
  have w2 := hw.2.1.2.1
  have w3 := hw.2.2.1.1
  unfold mV ft_hom
  cases hx : inN (p_ns (s_P S)) x with
  | false =>
    rw [hx, b01_f] at q1
    simp only [Bool.false_and, Bool.false_eq_true, if_false]
    refine ⟨up_2 I m 7 (iN 1), ?_, MC_thr (R_F_7 hR0) MP_7 (by omega) up_at rfl⟩
    rw [c_228, b_228_0]
    simp (disch := omega) only [rd_I_mk, rd_R_mk, rd_L_mk, rd_D_mk, kd_mk, wr_I_mk, cp_mk, gd_true, bd_ret, bd_thr, vl_none, vl_some, iN_add, iN_mul, iN_sub, iN_lt, iN_eq, iN_n, iN_m1, iN_pred, vp_iN, K0_le, nr_b0, nr_b1, m1_lt, lt_m1, iN_ne_m1, m1_ne_iN, not_lt_z, true_and, and_true, and_self, or_true, true_or, or_false, false_or, if_true, if_false, ↓reduceIte, eq_self, up_at, up_a, up_k, cp_c, cp_b, Nat.zero_add, Nat.add_zero, Nat.sub_zero, Nat.le_refl, Nat.add_sub_cancel, fu_at, fu_ne, iN_nz, n10_f, n01_f, ofN, qq_at_100, k110b, Nat.lt_irrefl, Nat.not_lt_zero, ne_eq, not_false_eq_true, not_true_eq_false, k0, q1, b_228_4, b_228_9, b_228_12, thT k0 m70, b_228_14]
    rfl
  | true =>
    rw [hx, b01_t] at q1
    cases hy : inN (p_np (s_P S)) y with
    | false =>
      rw [hy, b01_f] at q2
      simp only [Bool.true_and, Bool.false_eq_true, if_false]
      refine ⟨up_2 I m 7 (iN 1), ?_, MC_thr (R_F_7 hR0) MP_7 (by omega) up_at rfl⟩
      rw [c_228, b_228_0]
      simp (disch := omega) only [rd_I_mk, rd_R_mk, rd_L_mk, rd_D_mk, kd_mk, wr_I_mk, cp_mk, gd_true, bd_ret, bd_thr, vl_none, vl_some, iN_add, iN_mul, iN_sub, iN_lt, iN_eq, iN_n, iN_m1, iN_pred, vp_iN, K0_le, nr_b0, nr_b1, m1_lt, lt_m1, iN_ne_m1, m1_ne_iN, not_lt_z, true_and, and_true, and_self, or_true, true_or, or_false, false_or, if_true, if_false, ↓reduceIte, eq_self, up_at, up_a, up_k, cp_c, cp_b, Nat.zero_add, Nat.add_zero, Nat.sub_zero, Nat.le_refl, Nat.add_sub_cancel, fu_at, fu_ne, iN_nz, n10_f, n01_f, ofN, qq_at_100, k110b, Nat.lt_irrefl, Nat.not_lt_zero, ne_eq, not_false_eq_true, not_true_eq_false, k0, q1, q2, b_228_4, b_228_8, b_228_9, b_228_12, thT k0 m70, b_228_14]
      rfl
    | true =>
      rw [hy, b01_t] at q2
      obtain ⟨j, hj, rfl⟩ := (inN_iff (by omega)).mp hx
      obtain ⟨i, hi, rfl⟩ := (inN_iff (by omega)).mp hy
      simp only [Bool.and_self, if_true]
      unfold o_hom
      rw [tn_iN (by omega), tn_iN (by omega)]
      have e : ∀ k, up_2 I m 7 (iN 0) (m + 1) k = I (m + 1) k := fun k => by rw [up_c (by omega)]
      have q3 := c_ofStatue (d := d + 1) (I := up_2 I m 7 (iN 0)) k0 r0 g1 (k := j) (w := 1) (by omega) (by omega)
      rw [e, (h12 j hj).2.1] at q3
      have q4 := c_setsStatue (d := d + 1) (I := up_2 I m 7 (iN 0)) k0 m70 r0 g1 (k := j) (w := 1) (by omega) (by omega) (v := iN i)
      refine ⟨up_2 (up_2 I m 7 (iN 0)) (m + 1) (19 + 3 * j + 1) (iN i), ?_, ?_, ?_, MP_tr MP_7 MP_s⟩
      · rw [c_228, b_228_0]
        simp (disch := omega) only [rd_I_mk, rd_R_mk, rd_L_mk, rd_D_mk, kd_mk, wr_I_mk, cp_mk, gd_true, bd_ret, bd_thr, vl_none, vl_some, iN_add, iN_mul, iN_sub, iN_lt, iN_eq, iN_n, iN_m1, iN_pred, vp_iN, K0_le, nr_b0, nr_b1, m1_lt, lt_m1, iN_ne_m1, m1_ne_iN, not_lt_z, true_and, and_true, and_self, or_true, true_or, or_false, false_or, if_true, if_false, ↓reduceIte, eq_self, up_at, up_a, up_k, cp_c, cp_b, Nat.zero_add, Nat.add_zero, Nat.sub_zero, Nat.le_refl, Nat.add_sub_cancel, fu_at, fu_ne, iN_nz, n10_f, n01_f, ofN, qq_at_100, k110b, Nat.lt_irrefl, Nat.not_lt_zero, ne_eq, not_false_eq_true, not_true_eq_false, k0, q1, q2, b_228_4, b_228_8, b_228_12, thF k0 m70, b_228_14, q3, b_228_21, q4, b_228_27]
      · rw [if_pos rfl]
        refine ⟨by rw [up_k (by omega), e]; exact h0, by rw [up_k (by omega), e]; exact h1, by rw [up_k (by omega), e]; exact h2, by rw [up_k (by omega), e]; exact h3, by rw [up_k (by omega), e]; exact h4, by rw [up_k (by omega), e]; exact h5, by rw [up_k (by omega), e]; exact h6, by rw [up_k (by omega), e]; exact h7, by rw [up_k (by omega), e]; exact h8, by rw [up_k (by omega), e]; exact h9, by rw [up_k (by omega), e]; exact h10, fun k hk => ?_, fun k hk => ?_, fun k hk => ?_, fun w hw => ?_⟩
        · have hk : k < p_np (s_P S) := hk
          rw [up_k (by omega), e]; exact h11 k hk
        · have hk : k < p_ns (s_P S) := hk
          obtain ⟨a1, a2, a3⟩ := h12 k hk
          refine ⟨by rw [up_k (by omega), e]; exact a1, ?_, by rw [up_k (by omega), e]; exact a3⟩
          show _ = iN (fu (p_ho (s_P S)) j i k)
          by_cases z : k = j
          · rw [z, up_at, fu_at]
          · rw [up_k (by omega), fu_ne z, e]; exact a2
        · have hk : k < un (s_U S) := hk
          rw [up_k (by omega), up_k (by omega), up_k (by omega), up_k (by omega), up_k (by omega), up_k (by omega), e, e, e, e, e, e]; exact h13 k hk
        · rw [up_k (by omega), e]; exact h14 w hw
      · rw [up_c (by omega), up_at]; rfl
theorem m_blk (hL : L_N τ m) (hR : R_F (I (m + 1)) S) (hw : wS B S) (x y : Int32) : ∃ I', CC (d + 1) 239 [.ref m, .int x, .int y] (I, τ) = some (.inl (some (.int (mV (ft_blk S x y) (o_blk S x y).1))), (I', τ)) ∧ MC m I I' [97, 115] (ft_blk S x y) S (o_blk S x y).2 := by
  have hR0 := hR
  have hm := wS_M hw
  obtain ⟨m70, k0, r0, -, -, -, -, -, -, -, -, g1, -⟩ := hL
  obtain ⟨h0, h1, h2, h3, h4, h5, h6, h7, h8, h9, h10, h11, h12, h13, h14⟩ := hR
  have w1 := hw.2.1.1
  have w2 := hw.2.1.2.1
  have w3 := hw.2.2.1.1
  have q1 := c_isIn (d := d) (I := I) (τ := τ) (x := x) (lo := iN 1) (hi := iN 20)
  have q2 := c_isIn (d := d) (I := I) (τ := τ) (x := y) (lo := iN 1) (hi := iN 9)
  rw [inB_eq] at q1 q2
  unfold mV ft_blk
  cases hx : inB 1 20 x with
  | false =>
    rw [hx, b01_f] at q1
    simp only [Bool.false_and, Bool.false_eq_true, if_false]
    refine ⟨up_2 I m 7 (iN 1), ?_, MC_thr (R_F_7 hR0) MP_7 (by omega) up_at rfl⟩
    rw [c_239, b_239_0]
    simp (disch := omega) only [rd_I_mk, rd_R_mk, rd_L_mk, rd_D_mk, kd_mk, wr_I_mk, cp_mk, gd_true, bd_ret, bd_thr, vl_none, vl_some, iN_add, iN_mul, iN_sub, iN_lt, iN_eq, iN_n, iN_m1, iN_pred, vp_iN, K0_le, nr_b0, nr_b1, m1_lt, lt_m1, iN_ne_m1, m1_ne_iN, not_lt_z, true_and, and_true, and_self, or_true, true_or, or_false, false_or, if_true, if_false, ↓reduceIte, eq_self, up_at, up_a, up_k, cp_c, cp_b, Nat.zero_add, Nat.add_zero, Nat.sub_zero, Nat.le_refl, Nat.add_sub_cancel, fu_at, fu_ne, iN_nz, n10_f, n01_f, ofN, qq_at_100, k110b, Nat.lt_irrefl, Nat.not_lt_zero, ne_eq, not_false_eq_true, not_true_eq_false, k0, q1, b_239_5, b_239_11, b_239_14, thT k0 m70, b_239_16, b_239_34]
    rfl
  | true =>
    rw [hx, b01_t] at q1
    cases hy : inB 1 9 y with
    | false =>
      rw [hy, b01_f] at q2
      simp only [Bool.true_and, Bool.false_eq_true, if_false]
      refine ⟨up_2 I m 7 (iN 1), ?_, MC_thr (R_F_7 hR0) MP_7 (by omega) up_at rfl⟩
      rw [c_239, b_239_0]
      simp (disch := omega) only [rd_I_mk, rd_R_mk, rd_L_mk, rd_D_mk, kd_mk, wr_I_mk, cp_mk, gd_true, bd_ret, bd_thr, vl_none, vl_some, iN_add, iN_mul, iN_sub, iN_lt, iN_eq, iN_n, iN_m1, iN_pred, vp_iN, K0_le, nr_b0, nr_b1, m1_lt, lt_m1, iN_ne_m1, m1_ne_iN, not_lt_z, true_and, and_true, and_self, or_true, true_or, or_false, false_or, if_true, if_false, ↓reduceIte, eq_self, up_at, up_a, up_k, cp_c, cp_b, Nat.zero_add, Nat.add_zero, Nat.sub_zero, Nat.le_refl, Nat.add_sub_cancel, fu_at, fu_ne, iN_nz, n10_f, n01_f, ofN, qq_at_100, k110b, Nat.lt_irrefl, Nat.not_lt_zero, ne_eq, not_false_eq_true, not_true_eq_false, k0, q1, q2, b_239_5, b_239_10, b_239_11, b_239_14, thT k0 m70, b_239_16, b_239_34]
      rfl
    | true =>
      rw [hy, b01_t] at q2
      obtain ⟨j, hj1, hj, rfl⟩ := (inB_iff (by omega) (by omega)).mp hx
      obtain ⟨i, hi1, hi, rfl⟩ := (inB_iff (by omega) (by omega)).mp hy
      simp only [Bool.and_self, if_true]
      unfold o_blk
      rw [tn_iN (by omega), tn_iN (by omega), iN_n (by omega), iN_n (by omega)]
      have hmj := hm j (by omega)
      have e : ∀ k, up_2 I m 7 (iN 0) (m + 1) k = I (m + 1) k := fun k => by rw [up_c (by omega)]
      have r := h14 j (by omega)
      have re := e (85 + j)
      by_cases z : 99 < m_bl (s_M S) j + i
      · rw [if_pos z]
        refine ⟨up_2 (up_2 I m 7 (iN 0)) m 7 (iN 2), ?_, MC_thr (R_F_7 (R_F_7 hR0)) (MP_tr MP_7 MP_7) (by omega) up_at rfl⟩
        rw [c_239, b_239_0]
        simp (disch := omega) only [rd_I_mk, rd_R_mk, rd_L_mk, rd_D_mk, kd_mk, wr_I_mk, cp_mk, gd_true, bd_ret, bd_thr, vl_none, vl_some, iN_add, iN_mul, iN_sub, iN_lt, iN_eq, iN_n, iN_m1, iN_pred, vp_iN, K0_le, nr_b0, nr_b1, m1_lt, lt_m1, iN_ne_m1, m1_ne_iN, not_lt_z, true_and, and_true, and_self, or_true, true_or, or_false, false_or, if_true, if_false, ↓reduceIte, eq_self, up_at, up_a, up_k, cp_c, cp_b, Nat.zero_add, Nat.add_zero, Nat.sub_zero, Nat.le_refl, Nat.add_sub_cancel, fu_at, fu_ne, iN_nz, n10_f, n01_f, ofN, qq_at_100, k110b, Nat.lt_irrefl, Nat.not_lt_zero, ne_eq, not_false_eq_true, not_true_eq_false, k0, q1, q2, b_239_5, b_239_10, b_239_14, thF k0 m70, b_239_16, r0, g1, re, r, z, b_239_31, thT k0 m70, b_239_33, b_239_34]
        rfl
      · rw [if_neg z, if_pos rfl]
        have e2 : ∀ k, up_2 (up_2 I m 7 (iN 0)) m 7 (iN 0) (m + 1) k = I (m + 1) k := fun k => by rw [up_c (by omega), up_c (by omega)]
        have re2 := e2 (85 + j)
        have re3 := e2 3
        refine ⟨up_2 (up_2 (up_2 (up_2 I m 7 (iN 0)) m 7 (iN 0)) (m + 1) (85 + j) (iN (m_bl (s_M S) j + i))) (m + 1) 3 (m_ad (s_M S) + iN (j * i)), ?_, ?_, ?_, MP_tr (MP_tr MP_7 MP_7) (MP_tr MP_s MP_s)⟩
        · rw [c_239, b_239_0]
          simp (disch := omega) only [rd_I_mk, rd_R_mk, rd_L_mk, rd_D_mk, kd_mk, wr_I_mk, cp_mk, gd_true, bd_ret, bd_thr, vl_none, vl_some, iN_add, iN_mul, iN_sub, iN_lt, iN_eq, iN_n, iN_m1, iN_pred, vp_iN, K0_le, nr_b0, nr_b1, m1_lt, lt_m1, iN_ne_m1, m1_ne_iN, not_lt_z, true_and, and_true, and_self, or_true, true_or, or_false, false_or, if_true, if_false, ↓reduceIte, eq_self, up_at, up_a, up_k, cp_c, cp_b, Nat.zero_add, Nat.add_zero, Nat.sub_zero, Nat.le_refl, Nat.add_sub_cancel, fu_at, fu_ne, iN_nz, n10_f, n01_f, ofN, qq_at_100, k110b, Nat.lt_irrefl, Nat.not_lt_zero, ne_eq, not_false_eq_true, not_true_eq_false, k0, q1, q2, b_239_5, b_239_10, b_239_14, thF k0 m70, b_239_16, r0, g1, re, r, z, b_239_31, b_239_33, re2, re3, h3, b_239_46, b_239_56]
        · rw [if_pos rfl]
          have e := e2
          refine ⟨by rw [up_k (by omega), up_k (by omega), e]; exact h0, by rw [up_k (by omega), up_k (by omega), e]; exact h1, by rw [up_k (by omega), up_k (by omega), e]; exact h2, ?_, by rw [up_k (by omega), up_k (by omega), e]; exact h4, by rw [up_k (by omega), up_k (by omega), e]; exact h5, by rw [up_k (by omega), up_k (by omega), e]; exact h6, by rw [up_k (by omega), up_k (by omega), e]; exact h7, by rw [up_k (by omega), up_k (by omega), e]; exact h8, by rw [up_k (by omega), up_k (by omega), e]; exact h9, by rw [up_k (by omega), up_k (by omega), e]; exact h10, fun k hk => ?_, fun k hk => ?_, fun k hk => ?_, fun w hw => ?_⟩
          · rw [up_at]
            show _ = m_ad (s_M S) + iN j * iN i
            rw [iN_mul]
          · have hk : k < p_np (s_P S) := hk
            rw [up_k (by omega), up_k (by omega), e]; exact h11 k hk
          · have hk : k < p_ns (s_P S) := hk
            rw [up_k (by omega), up_k (by omega), up_k (by omega), up_k (by omega), up_k (by omega), up_k (by omega), e, e, e]; exact h12 k hk
          · have hk : k < un (s_U S) := hk
            rw [up_k (by omega), up_k (by omega), up_k (by omega), up_k (by omega), up_k (by omega), up_k (by omega), up_k (by omega), up_k (by omega), up_k (by omega), up_k (by omega), up_k (by omega), up_k (by omega), e, e, e, e, e, e]; exact h13 k hk
          · show _ = iN (fu (m_bl (s_M S)) j (m_bl (s_M S) j + i) w)
            by_cases y : w = j
            · rw [y, up_k (by omega), up_at, fu_at]
            · rw [up_k (by omega), up_k (by omega), fu_ne y, e]; exact h14 w hw
        · rw [up_c (by omega), up_c (by omega), up_at]; rfl
theorem oN_neg {o : Option Nat} (h : ∀ k, o = some k → k < 1000000) : (oN o < iN 0) = (o = none) := by
  cases o with
  | none => exact propext ⟨fun _ => rfl, fun _ => of_eq_true (m1_lt (by omega))⟩
  | some k =>
    have hk := h k rfl
    exact (not_lt_z (show k < 2147483648 by omega)).trans (eq_false (fun z => by cases z)).symm
theorem m_sta (hL : L_N τ m) (hR : R_F (I (m + 1)) S) (hw : wS B S) (x y : Int32) : ∃ I', CC (d + 2) 226 [.ref m, .int x, .int y] (I, τ) = some (.inl (some (.int (mV (ft_sta S x y) (o_sta S x y).1))), (I', τ)) ∧ MC m I I' [105, 97, 115] (ft_sta S x y) S (o_sta S x y).2 := by
  have hR0 := hR
  have hL0 := hL
  have q1 := c_isPedestal (d := d) hL hR hw x
  obtain ⟨m70, k0, r0, -, -, -, -, -, -, -, -, g1, -⟩ := hL
  obtain ⟨h0, h1, h2, h3, h4, h5, h6, h7, h8, h9, h10, h11, h12, h13, h14⟩ := hR
  have w1 := hw.2.1.1
  have w2 := hw.2.1.2.1
  have w3 := hw.2.2.1.1
  unfold mV ft_sta
  cases hx : inN (p_np (s_P S)) x with
  | false =>
    rw [hx, b01_f] at q1
    simp only [if_true]
    refine ⟨up_2 I m 7 (iN 1), ?_, MC_thr (R_F_7 hR0) MP_7 (by omega) up_at rfl⟩
    rw [c_226, b_226_0]
    simp (disch := omega) only [rd_I_mk, rd_R_mk, rd_L_mk, rd_D_mk, kd_mk, wr_I_mk, cp_mk, gd_true, bd_ret, bd_thr, vl_none, vl_some, iN_add, iN_mul, iN_sub, iN_lt, iN_eq, iN_n, iN_m1, iN_pred, vp_iN, K0_le, nr_b0, nr_b1, m1_lt, lt_m1, iN_ne_m1, m1_ne_iN, not_lt_z, true_and, and_true, and_self, or_true, true_or, or_false, false_or, if_true, if_false, ↓reduceIte, eq_self, up_at, up_a, up_k, cp_c, cp_b, Nat.zero_add, Nat.add_zero, Nat.sub_zero, Nat.le_refl, Nat.add_sub_cancel, fu_at, fu_ne, iN_nz, n10_f, n01_f, ofN, qq_at_100, k110b, Nat.lt_irrefl, Nat.not_lt_zero, ne_eq, not_false_eq_true, not_true_eq_false, k0, q1, b_226_4, b_226_8, thT k0 m70, b_226_10, b_226_40]
    rfl
  | true =>
    rw [hx, b01_t] at q1
    simp only [Bool.true_eq_false, if_false]
    obtain ⟨j, hj, rfl⟩ := (inN_iff (by omega)).mp hx
    have q2 := c_isIn (d := d + 1) (I := up_2 I m 7 (iN 0)) (τ := τ) (x := y) (lo := iN 1) (hi := iN 99)
    rw [inB_eq] at q2
    cases hy : inB 1 99 y with
    | false =>
      rw [hy, b01_f] at q2
      simp only [if_true]
      refine ⟨up_2 (up_2 I m 7 (iN 0)) m 7 (iN 2), ?_, MC_thr (R_F_7 (R_F_7 hR0)) (MP_tr MP_7 MP_7) (by omega) up_at rfl⟩
      rw [c_226, b_226_0]
      simp (disch := omega) only [rd_I_mk, rd_R_mk, rd_L_mk, rd_D_mk, kd_mk, wr_I_mk, cp_mk, gd_true, bd_ret, bd_thr, vl_none, vl_some, iN_add, iN_mul, iN_sub, iN_lt, iN_eq, iN_n, iN_m1, iN_pred, vp_iN, K0_le, nr_b0, nr_b1, m1_lt, lt_m1, iN_ne_m1, m1_ne_iN, not_lt_z, true_and, and_true, and_self, or_true, true_or, or_false, false_or, if_true, if_false, ↓reduceIte, eq_self, up_at, up_a, up_k, cp_c, cp_b, Nat.zero_add, Nat.add_zero, Nat.sub_zero, Nat.le_refl, Nat.add_sub_cancel, fu_at, fu_ne, iN_nz, n10_f, n01_f, ofN, qq_at_100, k110b, Nat.lt_irrefl, Nat.not_lt_zero, ne_eq, not_false_eq_true, not_true_eq_false, k0, q1, b_226_4, b_226_8, thF k0 m70, b_226_10, q2, b_226_16, b_226_20, thT k0 m70, b_226_22, b_226_40]
      rfl
    | true =>
      rw [hy, b01_t] at q2
      simp only [Bool.true_eq_false, if_false]
      obtain ⟨i, hi1, hi, rfl⟩ := (inB_iff (by omega) (by omega)).mp hy
      rw [iN_n (by omega)]
      have hR2 : R_F (up_2 (up_2 I m 7 (iN 0)) m 7 (iN 0) (m + 1)) S := R_F_7 (R_F_7 hR0)
      have e : ∀ k, up_2 (up_2 I m 7 (iN 0)) m 7 (iN 0) (m + 1) k = I (m + 1) k := fun k => by rw [up_c (by omega), up_c (by omega)]
      have e9 := e 9
      by_cases z : p_ns (s_P S) < 6
      · rw [if_pos z]
        have z6 : ¬ p_ns (s_P S) = 6 := by omega
        have q3 := c_on (d := d) hL0 hR2 hw (x := j) (by omega)
        have hon := oN_neg (o := onP (s_P S) j) (fun k hk => by have := (ff_some _ _ _ hk).2.1; omega)
        by_cases z2 : onP (s_P S) j = none
        · rw [eq_true z2] at hon
          rw [if_pos z2, if_pos rfl]
          unfold o_sta
          rw [tn_iN (by omega), tn_iN (by omega)]
          have e3 : ∀ k, up_2 (up_2 (up_2 I m 7 (iN 0)) m 7 (iN 0)) m 7 (iN 0) (m + 1) k = I (m + 1) k := fun k => by rw [up_c (by omega)]; exact e k
          have e39 := e3 9
          have t1 := c_setsStatue (d := d + 1) (I := up_2 (up_2 (up_2 I m 7 (iN 0)) m 7 (iN 0)) m 7 (iN 0)) k0 m70 r0 g1 (k := p_ns (s_P S)) (w := 0) z (by omega) (v := iN j)
          have t2 := c_setsStatue (d := d + 1) (I := up_2 (up_2 (up_2 (up_2 I m 7 (iN 0)) m 7 (iN 0)) m 7 (iN 0)) (m + 1) (19 + 3 * p_ns (s_P S) + 0) (iN j)) k0 m70 r0 g1 (k := p_ns (s_P S)) (w := 1) z (by omega) (v := iN j)
          have t3 := c_setsStatue (d := d + 1) (I := up_2 (up_2 (up_2 (up_2 (up_2 I m 7 (iN 0)) m 7 (iN 0)) m 7 (iN 0)) (m + 1) (19 + 3 * p_ns (s_P S) + 0) (iN j)) (m + 1) (19 + 3 * p_ns (s_P S) + 1) (iN j)) k0 m70 r0 g1 (k := p_ns (s_P S)) (w := 2) z (by omega) (v := iN i)
          refine ⟨up_2 (up_2 (up_2 (up_2 (up_2 (up_2 (up_2 I m 7 (iN 0)) m 7 (iN 0)) m 7 (iN 0)) (m + 1) (19 + 3 * p_ns (s_P S) + 0) (iN j)) (m + 1) (19 + 3 * p_ns (s_P S) + 1) (iN j)) (m + 1) (19 + 3 * p_ns (s_P S) + 2) (iN i)) (m + 1) 9 (iN (p_ns (s_P S) + 1)), ?_, ?_, ?_, MP_tr (MP_tr (MP_tr MP_7 MP_7) MP_7) (MP_tr (MP_tr MP_s MP_s) (MP_tr MP_s MP_s))⟩
          · have e4 : up_2 (up_2 (up_2 (up_2 (up_2 (up_2 I m 7 (iN 0)) m 7 (iN 0)) m 7 (iN 0)) (m + 1) (19 + 3 * p_ns (s_P S) + 0) (iN j)) (m + 1) (19 + 3 * p_ns (s_P S) + 1) (iN j)) (m + 1) (19 + 3 * p_ns (s_P S) + 2) (iN i) (m + 1) 9 = iN (p_ns (s_P S)) := by
              rw [up_k (by omega), up_k (by omega), up_k (by omega), e3]; exact h9
            rw [h9] at e9 e39
            rw [c_226, b_226_0]
            simp (disch := omega) only [kd_mk, rd_R_mk, rd_I_mk, wr_I_mk, k0, gd_true, q1, bd_ret, vl_some, vl_none, b_226_4, n10_f, if_false, b_226_8, thF k0 m70, b_226_10, if_true, q2, b_226_16, b_226_20, b_226_22, r0, g1, true_and, and_true, and_self, vp_iN, iN_n, e9, iN_eq, z6, q3, b_226_33, hon, b_226_37, b_226_39, e39, t1, b_226_52, t2, b_226_57, t3, b_226_62, e4, K0_le, iN_add, b_226_70]
          · rw [if_pos rfl]
            have e := e3
            refine ⟨by rw [up_k (by omega), up_k (by omega), up_k (by omega), up_k (by omega), e]; exact h0, by rw [up_k (by omega), up_k (by omega), up_k (by omega), up_k (by omega), e]; exact h1, by rw [up_k (by omega), up_k (by omega), up_k (by omega), up_k (by omega), e]; exact h2, by rw [up_k (by omega), up_k (by omega), up_k (by omega), up_k (by omega), e]; exact h3, by rw [up_k (by omega), up_k (by omega), up_k (by omega), up_k (by omega), e]; exact h4, by rw [up_k (by omega), up_k (by omega), up_k (by omega), up_k (by omega), e]; exact h5, by rw [up_k (by omega), up_k (by omega), up_k (by omega), up_k (by omega), e]; exact h6, by rw [up_k (by omega), up_k (by omega), up_k (by omega), up_k (by omega), e]; exact h7, by rw [up_k (by omega), up_k (by omega), up_k (by omega), up_k (by omega), e]; exact h8, up_at, by rw [up_k (by omega), up_k (by omega), up_k (by omega), up_k (by omega), e]; exact h10, fun k hk => ?_, fun k hk => ?_, fun k hk => ?_, fun w hw => ?_⟩
            · have hk : k < p_np (s_P S) := hk
              rw [up_k (by omega), up_k (by omega), up_k (by omega), up_k (by omega), e]; exact h11 k hk
            · have hk : k < p_ns (s_P S) + 1 := hk
              show _ = iN (fu (p_pl (s_P S)) (p_ns (s_P S)) j k) ∧ _ = iN (fu (p_ho (s_P S)) (p_ns (s_P S)) j k) ∧ _ = iN (fu (p_we (s_P S)) (p_ns (s_P S)) i k)
              by_cases y : k = p_ns (s_P S)
              · subst y
                rw [fu_at, fu_at, fu_at]
                exact ⟨by rw [up_k (by omega), up_k (by omega), up_k (by omega)]; exact up_at, by rw [up_k (by omega), up_k (by omega)]; exact up_at, by rw [up_k (by omega)]; exact up_at⟩
              · rw [fu_ne y, fu_ne y, fu_ne y]
                obtain ⟨a1, a2, a3⟩ := h12 k (by omega)
                exact ⟨by rw [up_k (by omega), up_k (by omega), up_k (by omega), up_k (by omega), e]; exact a1, by rw [up_k (by omega), up_k (by omega), up_k (by omega), up_k (by omega), e]; exact a2, by rw [up_k (by omega), up_k (by omega), up_k (by omega), up_k (by omega), e]; exact a3⟩
            · have hk : k < un (s_U S) := hk
              rw [up_k (by omega), up_k (by omega), up_k (by omega), up_k (by omega), up_k (by omega), up_k (by omega), up_k (by omega), up_k (by omega), up_k (by omega), up_k (by omega), up_k (by omega), up_k (by omega), up_k (by omega), up_k (by omega), up_k (by omega), up_k (by omega), up_k (by omega), up_k (by omega), up_k (by omega), up_k (by omega), up_k (by omega), up_k (by omega), up_k (by omega), up_k (by omega), e, e, e, e, e, e]; exact h13 k hk
            · rw [up_k (by omega), up_k (by omega), up_k (by omega), up_k (by omega), e]; exact h14 w hw
          · rw [up_c (by omega), up_c (by omega), up_c (by omega), up_c (by omega), up_at]; rfl
        · rw [eq_false z2] at hon
          rw [if_neg z2]
          rw [h9] at e9
          refine ⟨up_2 (up_2 (up_2 I m 7 (iN 0)) m 7 (iN 0)) m 7 (iN 3), ?_, MC_thr (R_F_7 hR2) (MP_tr (MP_tr MP_7 MP_7) MP_7) (by omega) up_at rfl⟩
          rw [c_226, b_226_0]
          simp (disch := omega) only [kd_mk, rd_R_mk, rd_I_mk, wr_I_mk, k0, gd_true, q1, bd_ret, vl_some, vl_none, b_226_4, n10_f, if_false, b_226_8, thF k0 m70, b_226_10, if_true, q2, b_226_16, b_226_20, b_226_22, r0, g1, true_and, and_true, and_self, vp_iN, iN_n, e9, iN_eq, z6, q3, b_226_33, hon, b_226_34, b_226_37, thT k0 m70, b_226_39, b_226_40]
          rfl
      · rw [if_neg z]
        have z6 : p_ns (s_P S) = 6 := by omega
        rw [h9, z6] at e9
        refine ⟨up_2 (up_2 (up_2 I m 7 (iN 0)) m 7 (iN 0)) m 7 (iN 3), ?_, MC_thr (R_F_7 hR2) (MP_tr (MP_tr MP_7 MP_7) MP_7) (by omega) up_at rfl⟩
        rw [c_226, b_226_0]
        simp (disch := omega) only [kd_mk, rd_R_mk, rd_I_mk, wr_I_mk, k0, gd_true, q1, bd_ret, vl_some, vl_none, b_226_4, n10_f, if_false, b_226_8, thF k0 m70, b_226_10, if_true, q2, b_226_16, b_226_20, b_226_22, r0, g1, true_and, and_true, and_self, vp_iN, iN_n, e9, b_226_34, b_226_37, thT k0 m70, b_226_39, b_226_40]
        rfl
end MN
