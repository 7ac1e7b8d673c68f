/-! THE MODEL: the docket -/
section MD
variable {d : Nat} {I : qq_I} {τ : qq_R} {m B : Nat} {S : sS}
theorem c_first (hL : L_N τ m) (hR : R_F (I (m + 1)) S) (hw : wS B S) : CC d 284 [.ref m] (I, τ) = some (.inl (some (.int (iN (fnt S)))), (I, τ)) := by
  obtain ⟨m70, k0, r0, r1, r2, r3, r4, r5, -, -, -, g1, -⟩ := hL
  have wb := hw.1
  have w5 := hw.2.2.2.2.1
  have w8 := hw.2.2.2.2.2.2.2.1
  have h0 := hR.1
  have h1 := hR.2.1
  have he := caC_eq (h := s_he S) (n := s_ni S) (by omega) (by omega)
  unfold fnt
  rw [c_284, b_284_0]
  by_cases y : s_he S = s_ni S + 1
  · rw [eq_true y] at he
    rw [if_pos y]
    simp (disch := omega) only [rd_I_mk, rd_R_mk, rd_L_mk, rd_D_mk, kd_mk, wr_I_mk, cp_mk, gd_true, bd_ret, bd_thr, vl_none, vl_some, iN_add, iN_mul, iN_sub, iN_lt, iN_eq, iN_n, iN_m1, iN_pred, vp_iN, K0_le, nr_b0, nr_b1, m1_lt, lt_m1, iN_ne_m1, m1_ne_iN, not_lt_z, true_and, and_true, and_self, or_true, true_or, or_false, false_or, if_true, if_false, ↓reduceIte, eq_self, up_at, up_a, up_k, cp_c, cp_b, Nat.zero_add, Nat.add_zero, Nat.sub_zero, Nat.le_refl, Nat.add_sub_cancel, fu_at, fu_ne, iN_nz, n10_f, n01_f, ofN, qq_at_100, k110b, Nat.lt_irrefl, Nat.not_lt_zero, ne_eq, not_false_eq_true, not_true_eq_false, k0, r0, g1, h0, h1, he, b_284_20]
  · rw [eq_false y] at he
    rw [if_neg y]
    simp (disch := omega) only [rd_I_mk, rd_R_mk, rd_L_mk, rd_D_mk, kd_mk, wr_I_mk, cp_mk, gd_true, bd_ret, bd_thr, vl_none, vl_some, iN_add, iN_mul, iN_sub, iN_lt, iN_eq, iN_n, iN_m1, iN_pred, vp_iN, K0_le, nr_b0, nr_b1, m1_lt, lt_m1, iN_ne_m1, m1_ne_iN, not_lt_z, true_and, and_true, and_self, or_true, true_or, or_false, false_or, if_true, if_false, ↓reduceIte, eq_self, up_at, up_a, up_k, cp_c, cp_b, Nat.zero_add, Nat.add_zero, Nat.sub_zero, Nat.le_refl, Nat.add_sub_cancel, fu_at, fu_ne, iN_nz, n10_f, n01_f, ofN, qq_at_100, k110b, Nat.lt_irrefl, Nat.not_lt_zero, ne_eq, not_false_eq_true, not_true_eq_false, k0, r0, g1, h0, h1, he, b_284_20]
theorem bit_i {s i : Nat} (hs : s < 256) (hi : i < 8) : (((iN s >>> (iN i &&& 31)) &&& iN 1) = iN 1) = (bitB s i = true) := by
  rw [iN_shr (by omega) (by omega), iN_and1, iN_eq (by omega) (by omega)]
  unfold bitB
  rw [decide_eq_true_eq]
theorem c_fits1 (hL : L_N τ m) (hR : R_F (I (m + 1)) S) (hw : wS B S) {s : Nat} (hs : s < 256) {i : Nat} (hi : i < un (s_U S)) : ∀ n j, j + n = un (s_U S) → RR (d + 2) 285 12 [some (.ref m), some (.int (iN s)), some (.int (iN i)), some (.int (iN (cntU (s_U S) s (la (s_U S) i) j))), some (.int (iN j))] [] (I, τ) = if (bitB s i = true → cntU (s_U S) s (la (s_U S) i) (un (s_U S)) + fnt S ≤ la (s_U S) i + 1) then RR (d + 2) 285 2 [some (.ref m), some (.int (iN s)), some (.int (iN (i + 1))), some (.int (iN (cntU (s_U S) s (la (s_U S) i) (un (s_U S))))), some (.int (iN (un (s_U S))))] [] (I, τ) else some (.inl (some (.int (iN 0))), (I, τ)) := by
  have hL0 := hL
  obtain ⟨m70, k0, r0, r1, r2, r3, r4, r5, -, -, -, g1, -⟩ := hL
  have w3 := hw.2.2.1.1
  have wb := hw.1
  have w5 := hw.2.2.2.2.1
  have h10 := hR.2.2.2.2.2.2.2.2.2.2.1
  have hf : fnt S ≤ 900001 := by unfold fnt; split <;> omega
  have hla : ∀ k, k < un (s_U S) → la (s_U S) k < 1000000 := fun k hk => (hw.2.2.1.2.2.2 k hk).2.2.2.2.2.1
  have qi := c_of (d := d + 1) (I := I) k0 r0 g1 (k := i) (w := 2) (by omega) (by omega)
  rw [(hR.2.2.2.2.2.2.2.2.2.2.2.2.2.1 i hi).2.2.1] at qi
  have qi : CC (d + 1) 216 [.ref m, .int (iN i), .int (iN 2)] (I, τ) = some (.inl (some (.int (iN (la (s_U S) i)))), (I, τ)) := qi
  have hc : ∀ j, cntU (s_U S) s (la (s_U S) i) j ≤ j := fun j => cn_le
  intro n
  induction n with
  | zero =>
    intro j hj
    have hj : j = un (s_U S) := hj
    subst hj
    have hcu := hc (un (s_U S))
    have q0 := c_first (d := d + 1) hL0 hR hw
    have bi := bit_i (s := s) (i := i) hs (by omega)
    have li := hla i hi
    have hs3 : (iN (la (s_U S) i) - iN (fnt S) + iN 1 < iN (cntU (s_U S) s (la (s_U S) i) (un (s_U S)))) = (la (s_U S) i + 1 < fnt S + cntU (s_U S) s (la (s_U S) i) (un (s_U S))) := iN_sl (by omega) (by omega) (by omega)
    by_cases y : bitB s i = true
    · rw [eq_true y] at bi
      by_cases z : cntU (s_U S) s (la (s_U S) i) (un (s_U S)) + fnt S ≤ la (s_U S) i + 1
      · have hs4 := hs3.trans (eq_false (show ¬ (la (s_U S) i + 1 < fnt S + cntU (s_U S) s (la (s_U S) i) (un (s_U S))) by omega))
        rw [if_pos (fun _ => z), b_285_12]
        simp (disch := omega) only [rd_I_mk, rd_R_mk, rd_L_mk, rd_D_mk, kd_mk, wr_I_mk, cp_mk, gd_true, bd_ret, bd_thr, vl_none, vl_some, iN_add, iN_mul, iN_lt, iN_eq, iN_n, iN_m1, iN_pred, vp_iN, K0_le, nr_b0, nr_b1, m1_lt, lt_m1, iN_ne_m1, m1_ne_iN, not_lt_z, true_and, and_true, and_self, or_true, true_or, or_false, false_or, if_true, if_false, ↓reduceIte, eq_self, up_at, up_a, up_k, cp_c, cp_b, Nat.zero_add, Nat.add_zero, Nat.sub_zero, Nat.le_refl, Nat.add_sub_cancel, fu_at, fu_ne, iN_nz, n10_f, n01_f, ofN, qq_at_100, k110b, Nat.lt_irrefl, Nat.not_lt_zero, ne_eq, not_false_eq_true, not_true_eq_false, k0, r0, g1, h10, Nat.lt_irrefl, bi, qi, b_285_54, q0, b_285_56, hs4, b_285_62]
      · have hs4 := hs3.trans (eq_true (show la (s_U S) i + 1 < fnt S + cntU (s_U S) s (la (s_U S) i) (un (s_U S)) by omega))
        rw [if_neg (fun q => z (q y)), b_285_12]
        simp (disch := omega) only [rd_I_mk, rd_R_mk, rd_L_mk, rd_D_mk, kd_mk, wr_I_mk, cp_mk, gd_true, bd_ret, bd_thr, vl_none, vl_some, iN_add, iN_mul, iN_lt, iN_eq, iN_n, iN_m1, iN_pred, vp_iN, K0_le, nr_b0, nr_b1, m1_lt, lt_m1, iN_ne_m1, m1_ne_iN, not_lt_z, true_and, and_true, and_self, or_true, true_or, or_false, false_or, if_true, if_false, ↓reduceIte, eq_self, up_at, up_a, up_k, cp_c, cp_b, Nat.zero_add, Nat.add_zero, Nat.sub_zero, Nat.le_refl, Nat.add_sub_cancel, fu_at, fu_ne, iN_nz, n10_f, n01_f, ofN, qq_at_100, k110b, Nat.lt_irrefl, Nat.not_lt_zero, ne_eq, not_false_eq_true, not_true_eq_false, k0, r0, g1, h10, Nat.lt_irrefl, bi, qi, b_285_54, q0, b_285_56, hs4, nr_b0]
    · rw [eq_false y] at bi
      rw [if_pos (fun q => absurd q y), b_285_12]
      simp (disch := omega) only [rd_I_mk, rd_R_mk, rd_L_mk, rd_D_mk, kd_mk, wr_I_mk, cp_mk, gd_true, bd_ret, bd_thr, vl_none, vl_some, iN_add, iN_mul, iN_lt, iN_eq, iN_n, iN_m1, iN_pred, vp_iN, K0_le, nr_b0, nr_b1, m1_lt, lt_m1, iN_ne_m1, m1_ne_iN, not_lt_z, true_and, and_true, and_self, or_true, true_or, or_false, false_or, if_true, if_false, ↓reduceIte, eq_self, up_at, up_a, up_k, cp_c, cp_b, Nat.zero_add, Nat.add_zero, Nat.sub_zero, Nat.le_refl, Nat.add_sub_cancel, fu_at, fu_ne, iN_nz, n10_f, n01_f, ofN, qq_at_100, k110b, Nat.lt_irrefl, Nat.not_lt_zero, ne_eq, not_false_eq_true, not_true_eq_false, k0, r0, g1, h10, Nat.lt_irrefl, bi, b_285_62]
  | succ n ih =>
    intro j hj
    have e : j < un (s_U S) := by omega
    have qj := c_of (d := d + 1) (I := I) k0 r0 g1 (k := j) (w := 2) (by omega) (by omega)
    rw [(hR.2.2.2.2.2.2.2.2.2.2.2.2.2.1 j e).2.2.1] at qj
    have qj : CC (d + 1) 216 [.ref m, .int (iN j), .int (iN 2)] (I, τ) = some (.inl (some (.int (iN (la (s_U S) j)))), (I, τ)) := qj
    have bj := bit_i (s := s) (i := j) hs (by omega)
    have lj := hla j e
    have li := hla i hi
    have hcj := hc j
    have hlt : (iN (la (s_U S) i) < iN (la (s_U S) j)) = (la (s_U S) i < la (s_U S) j) := iN_lt (by omega) (by omega)
    rw [← ih (j + 1) (by omega), b_285_12]
    by_cases y : bitB s j = true
    · rw [eq_true y] at bj
      by_cases z : la (s_U S) j ≤ la (s_U S) i
      · have ec : cntU (s_U S) s (la (s_U S) i) (j + 1) = cntU (s_U S) s (la (s_U S) i) j + 1 := cn_y (f := fun j => bitB s j && decide (la (s_U S) j ≤ la (s_U S) i)) (by rw [y, decide_eq_true z]; rfl)
        rw [ec]
        have hlt2 := hlt.trans (eq_false (show ¬ (la (s_U S) i < la (s_U S) j) by omega))
        simp (disch := omega) only [rd_I_mk, rd_R_mk, rd_L_mk, rd_D_mk, kd_mk, wr_I_mk, cp_mk, gd_true, bd_ret, bd_thr, vl_none, vl_some, iN_add, iN_mul, iN_lt, iN_eq, iN_n, iN_m1, iN_pred, vp_iN, K0_le, nr_b0, nr_b1, m1_lt, lt_m1, iN_ne_m1, m1_ne_iN, not_lt_z, true_and, and_true, and_self, or_true, true_or, or_false, false_or, if_true, if_false, ↓reduceIte, eq_self, up_at, up_a, up_k, cp_c, cp_b, Nat.zero_add, Nat.add_zero, Nat.sub_zero, Nat.le_refl, Nat.add_sub_cancel, fu_at, fu_ne, iN_nz, n10_f, n01_f, ofN, qq_at_100, k110b, Nat.lt_irrefl, Nat.not_lt_zero, ne_eq, not_false_eq_true, not_true_eq_false, k0, r0, g1, h10, e, bj, qj, b_285_30, qi, b_285_34, hlt2, b_285_38]
      · have ec : cntU (s_U S) s (la (s_U S) i) (j + 1) = cntU (s_U S) s (la (s_U S) i) j := cn_n (f := fun j => bitB s j && decide (la (s_U S) j ≤ la (s_U S) i)) (by rw [decide_eq_false z, Bool.and_false]; decide)
        rw [ec]
        have hlt2 := hlt.trans (eq_true (show la (s_U S) i < la (s_U S) j by omega))
        simp (disch := omega) only [rd_I_mk, rd_R_mk, rd_L_mk, rd_D_mk, kd_mk, wr_I_mk, cp_mk, gd_true, bd_ret, bd_thr, vl_none, vl_some, iN_add, iN_mul, iN_lt, iN_eq, iN_n, iN_m1, iN_pred, vp_iN, K0_le, nr_b0, nr_b1, m1_lt, lt_m1, iN_ne_m1, m1_ne_iN, not_lt_z, true_and, and_true, and_self, or_true, true_or, or_false, false_or, if_true, if_false, ↓reduceIte, eq_self, up_at, up_a, up_k, cp_c, cp_b, Nat.zero_add, Nat.add_zero, Nat.sub_zero, Nat.le_refl, Nat.add_sub_cancel, fu_at, fu_ne, iN_nz, n10_f, n01_f, ofN, qq_at_100, k110b, Nat.lt_irrefl, Nat.not_lt_zero, ne_eq, not_false_eq_true, not_true_eq_false, k0, r0, g1, h10, e, bj, qj, b_285_30, qi, b_285_34, hlt2, b_285_37, b_285_38]
    · rw [eq_false y] at bj
      have ec : cntU (s_U S) s (la (s_U S) i) (j + 1) = cntU (s_U S) s (la (s_U S) i) j := cn_n (f := fun j => bitB s j && decide (la (s_U S) j ≤ la (s_U S) i)) (by
        cases q : bitB s j with
        | true => exact absurd q y
        | false => rw [Bool.false_and]; decide)
      rw [ec]
      simp (disch := omega) only [rd_I_mk, rd_R_mk, rd_L_mk, rd_D_mk, kd_mk, wr_I_mk, cp_mk, gd_true, bd_ret, bd_thr, vl_none, vl_some, iN_add, iN_mul, iN_lt, iN_eq, iN_n, iN_m1, iN_pred, vp_iN, K0_le, nr_b0, nr_b1, m1_lt, lt_m1, iN_ne_m1, m1_ne_iN, not_lt_z, true_and, and_true, and_self, or_true, true_or, or_false, false_or, if_true, if_false, ↓reduceIte, eq_self, up_at, up_a, up_k, cp_c, cp_b, Nat.zero_add, Nat.add_zero, Nat.sub_zero, Nat.le_refl, Nat.add_sub_cancel, fu_at, fu_ne, iN_nz, n10_f, n01_f, ofN, qq_at_100, k110b, Nat.lt_irrefl, Nat.not_lt_zero, ne_eq, not_false_eq_true, not_true_eq_false, k0, r0, g1, h10, e, bj, b_285_37, b_285_38]
theorem c_fits (hL : L_N τ m) (hR : R_F (I (m + 1)) S) (hw : wS B S) {s : Nat} (hs : s < 256) : CC (d + 2) 285 [.ref m, .int (iN s)] (I, τ) = some (.inl (some (.int (b01 (decide (fitsP (s_U S) (fnt S) s))))), (I, τ)) := by
  have hL0 := hL
  obtain ⟨m70, k0, r0, r1, r2, r3, r4, r5, -, -, -, g1, -⟩ := hL
  have w3 := hw.2.2.1.1
  have h10 := hR.2.2.2.2.2.2.2.2.2.2.1
  have lp : ∀ n i u3 u4, i + n = un (s_U S) → (∀ k, k < i → bitB s k = true → cntU (s_U S) s (la (s_U S) k) (un (s_U S)) + fnt S ≤ la (s_U S) k + 1) → RR (d + 2) 285 2 [some (.ref m), some (.int (iN s)), some (.int (iN i)), u3, u4] [] (I, τ) = some (.inl (some (.int (b01 (decide (fitsP (s_U S) (fnt S) s))))), (I, τ)) := by
    intro n
    induction n with
    | zero =>
      intro i u3 u4 hi h
      have hi : i = un (s_U S) := hi
      subst hi
      have hp : fitsP (s_U S) (fnt S) s := fun k hk => h k hk
      rw [decide_eq_true hp, b01_t, b_285_2]
      simp (disch := omega) only [rd_I_mk, rd_R_mk, rd_L_mk, rd_D_mk, kd_mk, wr_I_mk, cp_mk, gd_true, bd_ret, bd_thr, vl_none, vl_some, iN_add, iN_mul, iN_sub, iN_lt, iN_eq, iN_n, iN_m1, iN_pred, vp_iN, K0_le, nr_b0, nr_b1, m1_lt, lt_m1, iN_ne_m1, m1_ne_iN, not_lt_z, true_and, and_true, and_self, or_true, true_or, or_false, false_or, if_true, if_false, ↓reduceIte, eq_self, up_at, up_a, up_k, cp_c, cp_b, Nat.zero_add, Nat.add_zero, Nat.sub_zero, Nat.le_refl, Nat.add_sub_cancel, fu_at, fu_ne, iN_nz, n10_f, n01_f, ofN, qq_at_100, k110b, Nat.lt_irrefl, Nat.not_lt_zero, ne_eq, not_false_eq_true, not_true_eq_false, k0, r0, g1, h10, Nat.lt_irrefl, nr_b1]
    | succ n ih =>
      intro i u3 u4 hi h
      have e : i < un (s_U S) := by omega
      have t := c_fits1 (d := d) hL0 hR hw hs e (un (s_U S)) 0 (Nat.zero_add _)
      have e0 : cntU (s_U S) s (la (s_U S) i) 0 = 0 := rfl
      rw [e0] at t
      rw [b_285_2]
      simp (disch := omega) only [rd_I_mk, rd_R_mk, rd_L_mk, rd_D_mk, kd_mk, wr_I_mk, cp_mk, gd_true, bd_ret, bd_thr, vl_none, vl_some, iN_add, iN_mul, iN_sub, iN_lt, iN_eq, iN_n, iN_m1, iN_pred, vp_iN, K0_le, nr_b0, nr_b1, m1_lt, lt_m1, iN_ne_m1, m1_ne_iN, not_lt_z, true_and, and_true, and_self, or_true, true_or, or_false, false_or, if_true, if_false, ↓reduceIte, eq_self, up_at, up_a, up_k, cp_c, cp_b, Nat.zero_add, Nat.add_zero, Nat.sub_zero, Nat.le_refl, Nat.add_sub_cancel, fu_at, fu_ne, iN_nz, n10_f, n01_f, ofN, qq_at_100, k110b, Nat.lt_irrefl, Nat.not_lt_zero, ne_eq, not_false_eq_true, not_true_eq_false, k0, r0, g1, h10, e]
      rw [t]
      by_cases y : bitB s i = true → cntU (s_U S) s (la (s_U S) i) (un (s_U S)) + fnt S ≤ la (s_U S) i + 1
      · rw [if_pos y]
        exact ih (i + 1) _ _ (by omega) (fun k hk => by
          by_cases z : k = i
          · rw [z]; exact y
          · exact h k (by omega))
      · rw [if_neg y]
        have hp : ¬ fitsP (s_U S) (fnt S) s := fun q => y (q i e)
        rw [decide_eq_false hp]
        rfl
  rw [c_285, b_285_0]
  exact lp (un (s_U S)) 0 _ _ (Nat.zero_add _) (fun k hk => absurd hk (Nat.not_lt_zero _))
theorem valU_le (hw : wS B S) {s : Nat} : ∀ n, n ≤ un (s_U S) → valU (s_U S) s n ≤ 60 * n := by
  intro n hn
  have := su_le (f := fun i => if bitB s i = true then ba (s_U S) i else 0) (B := 60) n (fun k hk => by
    have : ba (s_U S) k ≤ 60 := (hw.2.2.1.2.2.2 k (by omega)).2.2.2.1
    split <;> omega)
  unfold valU
  omega
theorem vset480 (hw : wS B S) {f s : Nat} : vset (s_U S) f s ≤ 480 := by
  have w3 := hw.2.2.1.1
  rw [vset_fits]
  split
  · have := valU_le (s := s) hw (un (s_U S)) (Nat.le_refl _)
    omega
  · omega
/-- one set of the search -/
theorem c_try1 (hL : L_N τ m) (hR : R_F (I (m + 1)) S) (hw : wS B S) {s b : Nat} (hs : s < 256) (hb : b ≤ 480) : ∀ n j, j + n = un (s_U S) → RR (d + 3) 286 19 [some (.ref m), some (.int (iN b)), some (.int (iN s)), some (.int (iN (valU (s_U S) s j))), some (.int (iN j))] [] (I, τ) = RR (d + 3) 286 7 [some (.ref m), some (.int (iN (max b (vset (s_U S) (fnt S) s)))), some (.int (iN (s + 1))), some (.int (iN (valU (s_U S) s (un (s_U S))))), some (.int (iN (un (s_U S))))] [] (I, τ) := by
  have hL0 := hL
  obtain ⟨m70, k0, r0, r1, r2, r3, r4, r5, -, -, -, g1, -⟩ := hL
  have w3 := hw.2.2.1.1
  have h10 := hR.2.2.2.2.2.2.2.2.2.2.1
  intro n
  induction n with
  | zero =>
    intro j hj
    have hj : j = un (s_U S) := hj
    subst hj
    have hv := valU_le (s := s) hw (un (s_U S)) (Nat.le_refl _)
    have qf := c_fits (d := d) hL0 hR hw hs
    have hlt : (iN b < iN (valU (s_U S) s (un (s_U S)))) = (b < valU (s_U S) s (un (s_U S))) := iN_lt (by omega) (by omega)
    rw [vset_fits, b_286_19]
    by_cases y : b < valU (s_U S) s (un (s_U S))
    · rw [eq_true y] at hlt
      by_cases z : fitsP (s_U S) (fnt S) s
      · rw [decide_eq_true z, b01_t] at qf
        rw [if_pos z, Nat.max_eq_right (by omega)]
        simp (disch := omega) only [rd_I_mk, rd_R_mk, rd_L_mk, rd_D_mk, kd_mk, wr_I_mk, cp_mk, gd_true, bd_ret, bd_thr, vl_none, vl_some, iN_add, iN_mul, iN_sub, iN_lt, iN_eq, iN_n, iN_m1, iN_pred, vp_iN, K0_le, nr_b0, nr_b1, m1_lt, lt_m1, iN_ne_m1, m1_ne_iN, not_lt_z, true_and, and_true, and_self, or_true, true_or, or_false, false_or, if_true, if_false, ↓reduceIte, eq_self, up_at, up_a, up_k, cp_c, cp_b, Nat.zero_add, Nat.add_zero, Nat.sub_zero, Nat.le_refl, Nat.add_sub_cancel, fu_at, fu_ne, iN_nz, n10_f, n01_f, ofN, qq_at_100, k110b, Nat.lt_irrefl, Nat.not_lt_zero, ne_eq, not_false_eq_true, not_true_eq_false, k0, r0, g1, h10, Nat.lt_irrefl, hlt, qf, b_286_49, b_286_53]
      · rw [decide_eq_false z, b01_f] at qf
        rw [if_neg z, Nat.max_eq_left (by omega)]
        simp (disch := omega) only [rd_I_mk, rd_R_mk, rd_L_mk, rd_D_mk, kd_mk, wr_I_mk, cp_mk, gd_true, bd_ret, bd_thr, vl_none, vl_some, iN_add, iN_mul, iN_sub, iN_lt, iN_eq, iN_n, iN_m1, iN_pred, vp_iN, K0_le, nr_b0, nr_b1, m1_lt, lt_m1, iN_ne_m1, m1_ne_iN, not_lt_z, true_and, and_true, and_self, or_true, true_or, or_false, false_or, if_true, if_false, ↓reduceIte, eq_self, up_at, up_a, up_k, cp_c, cp_b, Nat.zero_add, Nat.add_zero, Nat.sub_zero, Nat.le_refl, Nat.add_sub_cancel, fu_at, fu_ne, iN_nz, n10_f, n01_f, ofN, qq_at_100, k110b, Nat.lt_irrefl, Nat.not_lt_zero, ne_eq, not_false_eq_true, not_true_eq_false, k0, r0, g1, h10, Nat.lt_irrefl, hlt, qf, b_286_49, b_286_52, b_286_53]
    · rw [eq_false y] at hlt
      have hmx : max b (if fitsP (s_U S) (fnt S) s then valU (s_U S) s (un (s_U S)) else 0) = b := Nat.max_eq_left (by split <;> omega)
      rw [hmx]
      simp (disch := omega) only [rd_I_mk, rd_R_mk, rd_L_mk, rd_D_mk, kd_mk, wr_I_mk, cp_mk, gd_true, bd_ret, bd_thr, vl_none, vl_some, iN_add, iN_mul, iN_sub, iN_lt, iN_eq, iN_n, iN_m1, iN_pred, vp_iN, K0_le, nr_b0, nr_b1, m1_lt, lt_m1, iN_ne_m1, m1_ne_iN, not_lt_z, true_and, and_true, and_self, or_true, true_or, or_false, false_or, if_true, if_false, ↓reduceIte, eq_self, up_at, up_a, up_k, cp_c, cp_b, Nat.zero_add, Nat.add_zero, Nat.sub_zero, Nat.le_refl, Nat.add_sub_cancel, fu_at, fu_ne, iN_nz, n10_f, n01_f, ofN, qq_at_100, k110b, Nat.lt_irrefl, Nat.not_lt_zero, ne_eq, not_false_eq_true, not_true_eq_false, k0, r0, g1, h10, Nat.lt_irrefl, hlt, b_286_52, b_286_53]
  | succ n ih =>
    intro j hj
    have e : j < un (s_U S) := by omega
    have qj := c_of (d := d + 2) (I := I) k0 r0 g1 (k := j) (w := 3) (by omega) (by omega)
    rw [(hR.2.2.2.2.2.2.2.2.2.2.2.2.2.1 j e).2.2.2.1] at qj
    have bj := bit_i (s := s) (i := j) hs (by omega)
    have hv := valU_le (s := s) hw j (by omega)
    have hba : w_ba (ug (s_U S) j) ≤ 60 := (hw.2.2.1.2.2.2 j e).2.2.2.1
    rw [← ih (j + 1) (by omega), b_286_19]
    have ev : valU (s_U S) s (j + 1) = valU (s_U S) s j + (if bitB s j = true then w_ba (ug (s_U S) j) else 0) := rfl
    rw [ev]
    by_cases y : bitB s j = true
    · rw [eq_true y] at bj
      rw [if_pos y]
      simp (disch := omega) only [rd_I_mk, rd_R_mk, rd_L_mk, rd_D_mk, kd_mk, wr_I_mk, cp_mk, gd_true, bd_ret, bd_thr, vl_none, vl_some, iN_add, iN_mul, iN_sub, iN_lt, iN_eq, iN_n, iN_m1, iN_pred, vp_iN, K0_le, nr_b0, nr_b1, m1_lt, lt_m1, iN_ne_m1, m1_ne_iN, not_lt_z, true_and, and_true, and_self, or_true, true_or, or_false, false_or, if_true, if_false, ↓reduceIte, eq_self, up_at, up_a, up_k, cp_c, cp_b, Nat.zero_add, Nat.add_zero, Nat.sub_zero, Nat.le_refl, Nat.add_sub_cancel, fu_at, fu_ne, iN_nz, n10_f, n01_f, ofN, qq_at_100, k110b, Nat.lt_irrefl, Nat.not_lt_zero, ne_eq, not_false_eq_true, not_true_eq_false, k0, r0, g1, h10, e, bj, qj, b_286_37, b_286_39]
    · rw [eq_false y] at bj
      rw [if_neg y]
      simp (disch := omega) only [rd_I_mk, rd_R_mk, rd_L_mk, rd_D_mk, kd_mk, wr_I_mk, cp_mk, gd_true, bd_ret, bd_thr, vl_none, vl_some, iN_add, iN_mul, iN_sub, iN_lt, iN_eq, iN_n, iN_m1, iN_pred, vp_iN, K0_le, nr_b0, nr_b1, m1_lt, lt_m1, iN_ne_m1, m1_ne_iN, not_lt_z, true_and, and_true, and_self, or_true, true_or, or_false, false_or, if_true, if_false, ↓reduceIte, eq_self, up_at, up_a, up_k, cp_c, cp_b, Nat.zero_add, Nat.add_zero, Nat.sub_zero, Nat.le_refl, Nat.add_sub_cancel, fu_at, fu_ne, iN_nz, n10_f, n01_f, ofN, qq_at_100, k110b, Nat.lt_irrefl, Nat.not_lt_zero, ne_eq, not_false_eq_true, not_true_eq_false, k0, r0, g1, h10, e, bj, b_286_39]
end MD
section MD2
variable {d : Nat} {I : qq_I} {τ : qq_R} {m B : Nat} {C : sC}
theorem s_docket (h : R_N I τ m B C) : NR (d + 3) 286 [.ref m] I τ m B (iN (mxs (vset (s_U (g_S C)) (fnt (g_S C))) (2 ^ un (s_U (g_S C))))) 0 C := by
  have hL := h.1
  have hR := h.2.1
  have hw := h.2.2.1
  have hR7 : ∀ v, R_F (up_2 I m 7 v (m + 1)) (g_S C) := fun v => R_F_7 hR
  obtain ⟨m70, k0, r0, r1, r2, r3, r4, r5, -, -, -, g1, -⟩ := hL
  have w3 := hw.2.2.1.1
  have h10 := (hR7 (iN 0)).2.2.2.2.2.2.2.2.2.2.1
  have hp : 2 ^ un (s_U (g_S C)) ≤ 2 ^ 8 := Nat.pow_le_pow_right (by omega) w3
  have lp : ∀ n s u3 u4, s + n = 2 ^ un (s_U (g_S C)) → RR (d + 3) 286 7 [some (.ref m), some (.int (iN (mxs (vset (s_U (g_S C)) (fnt (g_S C))) s))), some (.int (iN s)), u3, u4] [] (up_2 I m 7 (iN 0), τ) = some (.inl (some (.int (iN (mxs (vset (s_U (g_S C)) (fnt (g_S C))) (2 ^ un (s_U (g_S C))))))), (up_2 I m 7 (iN 0), τ)) := by
    intro n
    induction n with
    | zero =>
      intro s u3 u4 hs
      have hs : s = 2 ^ un (s_U (g_S C)) := hs
      rw [b_286_7]
      simp (disch := omega) only [kd_mk, rd_R_mk, rd_I_mk, k0, r0, g1, gd_true, true_and, and_true, and_self, vp_iN, iN_n, h10, iN_shl, Nat.one_mul, hs, iN_lt, Nat.lt_irrefl, if_false]
    | succ n ih =>
      intro s u3 u4 hs
      have e : s < 2 ^ un (s_U (g_S C)) := by omega
      have hb : mxs (vset (s_U (g_S C)) (fnt (g_S C))) s ≤ 480 := mxs_le (fun s => vset480 hw) s
      have t := c_try1 (d := d) h.1 (hR7 (iN 0)) hw (s := s) (b := mxs (vset (s_U (g_S C)) (fnt (g_S C))) s) (by omega) hb (un (s_U (g_S C))) 0 (Nat.zero_add _)
      have e0 : valU (s_U (g_S C)) s 0 = 0 := rfl
      rw [e0] at t
      rw [b_286_7]
      simp (disch := omega) only [kd_mk, rd_R_mk, rd_I_mk, k0, r0, g1, gd_true, true_and, and_true, and_self, vp_iN, iN_n, h10, iN_shl, Nat.one_mul, iN_lt, e, if_true]
      rw [t]
      exact ih (s + 1) _ _ (by omega)
  refine ⟨up_2 I m 7 (iN 0), ?_, PN_7 h⟩
  rw [c_286, b_286_0]
  simp (disch := omega) only [rd_I_mk, rd_R_mk, rd_L_mk, rd_D_mk, kd_mk, wr_I_mk, cp_mk, gd_true, bd_ret, bd_thr, vl_none, vl_some, iN_add, iN_mul, iN_sub, iN_lt, iN_eq, iN_n, iN_m1, iN_pred, vp_iN, K0_le, nr_b0, nr_b1, m1_lt, lt_m1, iN_ne_m1, m1_ne_iN, not_lt_z, true_and, and_true, and_self, or_true, true_or, or_false, false_or, if_true, if_false, ↓reduceIte, eq_self, up_at, up_a, up_k, cp_c, cp_b, Nat.zero_add, Nat.add_zero, Nat.sub_zero, Nat.le_refl, Nat.add_sub_cancel, fu_at, fu_ne, iN_nz, n10_f, n01_f, ofN, qq_at_100, k110b, Nat.lt_irrefl, Nat.not_lt_zero, ne_eq, not_false_eq_true, not_true_eq_false, k0, b_286_3]
  exact lp (2 ^ un (s_U (g_S C))) 0 _ _ (Nat.zero_add _)
theorem n_docketValue (h : R_N I τ m B C) : NQ d 286 [.ref m] I τ m B (iN (gr (s_U (g_S C)) (fnt (g_S C)) (un (s_U (g_S C)))).sum) 0 C := by
  rw [gr_mxs]
  exact s_docket (d := d + 37) h
theorem n_docketBySets (h : R_N I τ m B C) : NQ d 287 [.ref m] I τ m B (iN (mxs (vset (s_U (g_S C)) (fnt (g_S C))) (2 ^ un (s_U (g_S C))))) 0 C := by
  obtain ⟨I', t1, t2⟩ := s_docket (d := d + 36) h
  refine ⟨I', ?_, t2⟩
  have k0 := h.1.2.1
  rw [c_287, b_287_0]
  simp (disch := omega) only [rd_I_mk, rd_R_mk, rd_L_mk, rd_D_mk, kd_mk, wr_I_mk, cp_mk, gd_true, bd_ret, bd_thr, vl_none, vl_some, iN_add, iN_mul, iN_sub, iN_lt, iN_eq, iN_n, iN_m1, iN_pred, vp_iN, K0_le, nr_b0, nr_b1, m1_lt, lt_m1, iN_ne_m1, m1_ne_iN, not_lt_z, true_and, and_true, and_self, or_true, true_or, or_false, false_or, if_true, if_false, ↓reduceIte, eq_self, up_at, up_a, up_k, cp_c, cp_b, Nat.zero_add, Nat.add_zero, Nat.sub_zero, Nat.le_refl, Nat.add_sub_cancel, fu_at, fu_ne, iN_nz, n10_f, n01_f, ofN, qq_at_100, k110b, Nat.lt_irrefl, Nat.not_lt_zero, ne_eq, not_false_eq_true, not_true_eq_false, k0, t1, b_287_2]
end MD2
