/-! THE MODEL: writs lapse, statues are held -/
section MZ
variable {d : Nat} {I : qq_I} {τ : qq_R} {m B : Nat} {S : sS}
theorem c_lapses (hL : L_N τ m) (hR : R_F (I (m + 1)) S) (hw : wS B S) : ∃ I', CC (d + 2) 250 [.ref m] (I, τ) = some (.inl none, (I', τ)) ∧ R_F (I' (m + 1)) (dsL (npf (s_ni S)) S) ∧ wS B (dsL (npf (s_ni S)) S) ∧ (∀ c, c ≠ m + 1 → I' c = I c) := by
  have hL0 := hL
  obtain ⟨m70, k0, r0, -, -, -, -, -, -, -, -, g1, -⟩ := hL
  have f_ok := npf_ok (s_ni S)
  have lp : ∀ n k (T : sS) (J : qq_I), un (s_U T) = k + n → wS B T → R_F (J (m + 1)) T → dsL (npf (s_ni S)) T = dsL (npf (s_ni S)) S → s_ni T = s_ni S → (∀ i, i < k → npf (s_ni S) (ug (s_U T) i) = true) → (∀ c, c ≠ m + 1 → J c = I c) →
      ∃ I', RR (d + 2) 250 2 [some (.ref m), some (.int (iN k))] [] (J, τ) = some (.inl none, (I', τ)) ∧ R_F (I' (m + 1)) (dsL (npf (s_ni S)) S) ∧ wS B (dsL (npf (s_ni S)) S) ∧ (∀ c, c ≠ m + 1 → I' c = I c) := by
    intro n
    induction n with
    | zero =>
      intro k T J hn hT hJ hd _ hall hI
      have e : dsL (npf (s_ni S)) T = T := dsL_all (fun i hi => hall i (by omega))
      rw [e] at hd
      have w3 := hT.2.2.1.1
      have h10 := hJ.2.2.2.2.2.2.2.2.2.2.1
      have hn : un (s_U T) = k := hn
      rw [hn] at h10
      refine ⟨J, ?_, by rw [← hd]; exact hJ, by rw [← hd]; exact hT, hI⟩
      rw [b_250_2]
      simp (disch := omega) only [rd_I_mk, rd_R_mk, rd_L_mk, rd_D_mk, kd_mk, wr_I_mk, cp_mk, gd_true, bd_ret, bd_thr, vl_none, vl_some, iN_add, iN_mul, iN_sub, iN_lt, iN_eq, iN_n, iN_m1, iN_pred, vp_iN, K0_le, nr_b0, nr_b1, m1_lt, lt_m1, iN_ne_m1, m1_ne_iN, not_lt_z, true_and, and_true, and_self, or_true, true_or, or_false, false_or, if_true, if_false, ↓reduceIte, eq_self, up_at, up_a, up_k, cp_c, cp_b, Nat.zero_add, Nat.add_zero, Nat.sub_zero, Nat.le_refl, Nat.add_sub_cancel, fu_at, fu_ne, iN_nz, n10_f, n01_f, ofN, qq_at_100, k110b, Nat.lt_irrefl, Nat.not_lt_zero, ne_eq, not_false_eq_true, not_true_eq_false, k0, r0, g1, h10]
    | succ n ih =>
      intro k T J hn hT hJ hd hni hall hI
      have hk : k < un (s_U T) := by omega
      have w3 := hT.2.2.1.1
      have w1 := hT.1
      have w5 := hT.2.2.2.2.1
      have w6 := (hT.2.2.1.2.2.2 k hk).2.2.2.2.2.1
      have h10 := hJ.2.2.2.2.2.2.2.2.2.2.1
      have h0 : J (m + 1) 0 = iN (s_ni S) := by rw [← hni]; exact hJ.1
      have q2 := c_of (d := d + 1) (I := J) k0 r0 g1 (k := k) (w := 2) (by omega) (by omega)
      rw [(hJ.2.2.2.2.2.2.2.2.2.2.2.2.2.1 k hk).2.2.1] at q2
      have hc : (iN (w_la (ug (s_U T) k)) < iN (s_ni S)) = (w_la (ug (s_U T) k) < s_ni S) := iN_lt (by omega) (by omega)
      have hkn : (iN k < iN (un (s_U T))) = True := (iN_lt (by omega) (by omega)).trans (eq_true hk)
      have p1 : ∀ i, i < 106 → vp_in (iN i) 106 = True := fun i h => vp_iN h (by omega)
      by_cases q : w_la (ug (s_U T) k) < s_ni S
      · have hgk : npf (s_ni S) (ug (s_U T) k) = false := decide_eq_false (by omega)
        rw [eq_true q] at hc
        obtain ⟨K, t1, t2, t3⟩ := c_closes (d := d) hL0 hJ hT hk true
        have t1 : CC (d + 1) 236 [.ref m, .int (iN k), .int (iN 1)] (J, τ) = some (.inl none, (K, τ)) := t1
        have t2 : R_F (K (m + 1)) (clS T k) := t2
        have hun : un (s_U (clS T k)) = un (s_U T) - 1 := un_close hk
        have k6 : K (m + 1) 6 = s_la T := t2.2.2.2.2.2.2.1
        have hR2 : R_F (up_2 K (m + 1) 6 (s_la T + iN 1) (m + 1)) (clL T k) := by
          have z1 := (wS_cl hT hk).2.1.1
          have z2 := (wS_cl hT hk).2.1.2.1
          obtain ⟨a0, a1, a2, a3, a4, a5, a6, a7, a8, a9, a10, a11, a12, a13, a14⟩ := t2
          refine ⟨by rw [up_k (by omega)]; exact a0, by rw [up_k (by omega)]; exact a1, by rw [up_k (by omega)]; exact a2, by rw [up_k (by omega)]; exact a3, by rw [up_k (by omega)]; exact a4, by rw [up_k (by omega)]; exact a5, up_at, by rw [up_k (by omega)]; exact a7, by rw [up_k (by omega)]; exact a8, by rw [up_k (by omega)]; exact a9, by rw [up_k (by omega)]; exact a10, fun i hi => by rw [up_k (by omega)]; exact a11 i hi, fun i hi => ?_, fun i hi => ?_, fun w hw => by rw [up_k (by omega)]; exact a14 w hw⟩
          · rw [up_k (by omega), up_k (by omega), up_k (by omega)]; exact a12 i hi
          · rw [up_k (by omega), up_k (by omega), up_k (by omega), up_k (by omega), up_k (by omega), up_k (by omega)]; exact a13 i hi
        obtain ⟨I', v1, v2⟩ := ih k (clL T k) (up_2 K (m + 1) 6 (s_la T + iN 1)) (by show un (s_U (clS T k)) = k + n; omega) (wS_cnt (wS_cl hT hk)) hR2 ((dsL_close f_ok hk hgk).trans hd) hni (fun i hi => by
          show npf (s_ni S) (ug (su_close (s_U T) k) i) = _
          rw [ug_close hk (by omega), if_pos hi, f_ok]; exact hall i hi) (fun c hc => by rw [up_c hc, t3 c hc]; exact hI c hc)
        refine ⟨I', ?_, v2⟩
        rw [b_250_2]
        simp (disch := omega) only [kd_mk, rd_R_mk, rd_I_mk, wr_I_mk, k0, r0, g1, gd_true, true_and, and_true, and_self, p1, iN_n, h10, hkn, if_true, q2, bd_ret, vl_some, vl_none, b_250_12, h0, hc, t1, b_250_21, k6, K0_le, b_250_29]
        exact v1
      · have hgk : npf (s_ni S) (ug (s_U T) k) = true := decide_eq_true (by omega)
        rw [eq_false q] at hc
        obtain ⟨I', v1, v2⟩ := ih (k + 1) T J (by omega) hT hJ hd hni (fun i hi => by
          by_cases y : i = k
          · rw [y]; exact hgk
          · exact hall i (by omega)) hI
        refine ⟨I', ?_, v2⟩
        rw [b_250_2]
        simp (disch := omega) only [kd_mk, rd_R_mk, rd_I_mk, wr_I_mk, k0, r0, g1, gd_true, true_and, and_true, and_self, p1, iN_n, h10, hkn, if_true, q2, bd_ret, vl_some, vl_none, b_250_12, h0, hc, if_false, iN_add]
        exact v1
  rw [c_250, b_250_0]
  exact lp (un (s_U S)) 0 S I (Nat.zero_add _).symm hw hR rfl rfl (fun i hi => absurd hi (Nat.not_lt_zero _)) (fun _ _ => rfl)
theorem or00 : iN 0 ||| iN 0 = iN 0 := by decide
theorem or01 : iN 0 ||| iN 1 = iN 1 := by decide
theorem or10 : iN 1 ||| iN 0 = iN 1 := by decide
theorem or11 : iN 1 ||| iN 1 = iN 1 := by decide
theorem b01_or (p q : Bool) : b01 p ||| b01 q = b01 (p || q) := by cases p <;> cases q <;> decide
theorem c_isHeld (hL : L_N τ m) (hR : R_F (I (m + 1)) S) (hw : wS B S) {x : Nat} (hx : x < 6) : CC (d + 1) 249 [.ref m, .int (iN x)] (I, τ) = some (.inl (some (.int (b01 (bU (s_U S) x)))), (I, τ)) := by
  obtain ⟨m70, k0, r0, -, -, -, -, -, -, -, -, g1, -⟩ := hL
  have h10 := hR.2.2.2.2.2.2.2.2.2.2.1
  have w3 := hw.2.2.1.1
  have lp : ∀ n k (acc : Bool), k + n = un (s_U S) → RR (d + 1) 249 4 [some (.ref m), some (.int (iN x)), some (.int (b01 acc)), some (.int (iN k))] [] (I, τ) = some (.inl (some (.int (b01 (acc || (ff (fun k => (w_of (ug (s_U S) k) == x) && (w_pd (ug (s_U S) k) == 0)) k n).isSome)))), (I, τ)) := by
    intro n
    induction n with
    | zero =>
      intro k acc hk
      have hk : k = un (s_U S) := hk
      rw [← hk] at h10
      rw [b_249_4]
      cases acc <;> simp (disch := omega) only [rd_I_mk, rd_R_mk, rd_L_mk, rd_D_mk, kd_mk, wr_I_mk, cp_mk, gd_true, bd_ret, bd_thr, vl_none, vl_some, iN_add, iN_mul, iN_sub, iN_lt, iN_eq, iN_n, iN_m1, iN_pred, vp_iN, K0_le, nr_b0, nr_b1, m1_lt, lt_m1, iN_ne_m1, m1_ne_iN, not_lt_z, true_and, and_true, and_self, or_true, true_or, or_false, false_or, if_true, if_false, ↓reduceIte, eq_self, up_at, up_a, up_k, cp_c, cp_b, Nat.zero_add, Nat.add_zero, Nat.sub_zero, Nat.le_refl, Nat.add_sub_cancel, fu_at, fu_ne, iN_nz, n10_f, n01_f, ofN, qq_at_100, k110b, Nat.lt_irrefl, Nat.not_lt_zero, ne_eq, not_false_eq_true, not_true_eq_false, k0, r0, g1, h10, b01_t, b01_f] <;> rfl
    | succ n ih =>
      intro k acc hk
      have e : k < un (s_U S) := by omega
      obtain ⟨y1, y2, y3, y4, y5, y6, y7⟩ := hw.2.2.1.2.2.2 k e
      obtain ⟨z1, z2, z3, z4, z5, z6⟩ := hR.2.2.2.2.2.2.2.2.2.2.2.2.2.1 k e
      have q1 := c_of (d := d) (I := I) k0 r0 g1 (k := k) (w := 1) (by omega) (by omega)
      have q4 := c_of (d := d) (I := I) k0 r0 g1 (k := k) (w := 4) (by omega) (by omega)
      rw [z2] at q1
      rw [z5] at q4
      have st : RR (d + 1) 249 4 [some (.ref m), some (.int (iN x)), some (.int (b01 acc)), some (.int (iN k))] [] (I, τ) = RR (d + 1) 249 4 [some (.ref m), some (.int (iN x)), some (.int (b01 acc ||| b01 ((w_of (ug (s_U S) k) == x) && (w_pd (ug (s_U S) k) == 0)))), some (.int (iN (k + 1)))] [] (I, τ) := by
        rw [b_249_4]
        by_cases a : w_of (ug (s_U S) k) = x
        · rw [beq_iff_eq.mpr a, Bool.true_and]
          by_cases b : w_pd (ug (s_U S) k) = 0
          · rw [beq_iff_eq.mpr b, b01_t]
            simp (disch := omega) only [rd_I_mk, rd_R_mk, rd_L_mk, rd_D_mk, kd_mk, wr_I_mk, cp_mk, gd_true, bd_ret, bd_thr, vl_none, vl_some, iN_add, iN_mul, iN_sub, iN_lt, iN_eq, iN_n, iN_m1, iN_pred, vp_iN, K0_le, nr_b0, nr_b1, m1_lt, lt_m1, iN_ne_m1, m1_ne_iN, not_lt_z, true_and, and_true, and_self, or_true, true_or, or_false, false_or, if_true, if_false, ↓reduceIte, eq_self, up_at, up_a, up_k, cp_c, cp_b, Nat.zero_add, Nat.add_zero, Nat.sub_zero, Nat.le_refl, Nat.add_sub_cancel, fu_at, fu_ne, iN_nz, n10_f, n01_f, ofN, qq_at_100, k110b, Nat.lt_irrefl, Nat.not_lt_zero, ne_eq, not_false_eq_true, not_true_eq_false, k0, r0, g1, h10, e, q1, b_249_15, a, q4, b_249_21, b, b_249_25]
          · rw [beq_eq_false_iff_ne.mpr b, b01_f]
            simp (disch := omega) only [rd_I_mk, rd_R_mk, rd_L_mk, rd_D_mk, kd_mk, wr_I_mk, cp_mk, gd_true, bd_ret, bd_thr, vl_none, vl_some, iN_add, iN_mul, iN_sub, iN_lt, iN_eq, iN_n, iN_m1, iN_pred, vp_iN, K0_le, nr_b0, nr_b1, m1_lt, lt_m1, iN_ne_m1, m1_ne_iN, not_lt_z, true_and, and_true, and_self, or_true, true_or, or_false, false_or, if_true, if_false, ↓reduceIte, eq_self, up_at, up_a, up_k, cp_c, cp_b, Nat.zero_add, Nat.add_zero, Nat.sub_zero, Nat.le_refl, Nat.add_sub_cancel, fu_at, fu_ne, iN_nz, n10_f, n01_f, ofN, qq_at_100, k110b, Nat.lt_irrefl, Nat.not_lt_zero, ne_eq, not_false_eq_true, not_true_eq_false, k0, r0, g1, h10, e, q1, b_249_15, a, q4, b_249_21, b, b_249_24, b_249_25]
        · rw [beq_eq_false_iff_ne.mpr a, Bool.false_and, b01_f]
          simp (disch := omega) only [rd_I_mk, rd_R_mk, rd_L_mk, rd_D_mk, kd_mk, wr_I_mk, cp_mk, gd_true, bd_ret, bd_thr, vl_none, vl_some, iN_add, iN_mul, iN_sub, iN_lt, iN_eq, iN_n, iN_m1, iN_pred, vp_iN, K0_le, nr_b0, nr_b1, m1_lt, lt_m1, iN_ne_m1, m1_ne_iN, not_lt_z, true_and, and_true, and_self, or_true, true_or, or_false, false_or, if_true, if_false, ↓reduceIte, eq_self, up_at, up_a, up_k, cp_c, cp_b, Nat.zero_add, Nat.add_zero, Nat.sub_zero, Nat.le_refl, Nat.add_sub_cancel, fu_at, fu_ne, iN_nz, n10_f, n01_f, ofN, qq_at_100, k110b, Nat.lt_irrefl, Nat.not_lt_zero, ne_eq, not_false_eq_true, not_true_eq_false, k0, r0, g1, h10, e, q1, b_249_15, a, b_249_24, b_249_25]
      rw [st, b01_or, ih (k + 1) _ (by omega)]
      cases hb : ((w_of (ug (s_U S) k) == x) && (w_pd (ug (s_U S) k) == 0)) with
      | false =>
        rw [Bool.or_false, ff_n (by rw [hb]; decide)]
      | true =>
        rw [ff_y hb, Bool.or_true, Bool.true_or]
        cases acc <;> rfl
  rw [c_249, b_249_0]
  have := lp (un (s_U S)) 0 false (Nat.zero_add _)
  rw [b01_f, Bool.false_or] at this
  exact this
end MZ
