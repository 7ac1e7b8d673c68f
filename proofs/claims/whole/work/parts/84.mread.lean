/-! THE MODEL: reading signs, numbers, words -/
/-- what has been typed, as the model holds it -/
def TP (I : qq_I) (m : Nat) (T : List Nat) : Prop := I m 17 = iN T.length ∧ T.length ≤ 60 ∧ (∀ i (h : i < T.length), I (m + 8) i = iN T[i]) ∧ (∀ x ∈ T, 32 ≤ x ∧ x ≤ 126)
/-- the model reads: where it is -/
def PS (m : Nat) (I : qq_I) (T : List Nat) (J : qq_I) (pos : Nat) : Prop := pos ≤ T.length ∧ J m 18 = iN pos ∧ (∀ a, a ≠ m → a ≠ m + 9 → J a = I a) ∧ (∀ k, k ≠ 18 → k ≠ 19 → J m k = I m k)
/-- a word taken sign by sign -/
def lit (T : List Nat) : List Nat → Nat → Bool × Nat
  | [], pos => (true, pos)
  | ch :: f, pos => if sg T pos = ch then lit T f (pos + 1) else (false, pos)
section MRD
variable {d : Nat} {I J : qq_I} {τ : qq_R} {m pos : Nat} {T : List Nat}
theorem c_peek (hL : L_N τ m) (hT : TP I m T) (hP : PS m I T J pos) : CC d 310 [.ref m] (J, τ) = some (.inl (some (.int (if pos < T.length then iN (sg T pos) else m1))), (J, τ)) := by
  obtain ⟨m70, k0, r0, r1, r2, r3, r4, r5, r6, r7, r8, g1, g2, g3, g4, g5, g6, g7, g8, g9⟩ := hL
  obtain ⟨t1, t2, t3, t4⟩ := hT
  obtain ⟨p0, p1, p2, p3⟩ := hP
  have e17 : J m 17 = iN T.length := by rw [p3 17 (by omega) (by omega)]; exact t1
  rw [c_310, b_310_0]
  by_cases y : pos < T.length
  · have ej : J (m + 8) pos = iN T[pos] := by rw [p2 _ (by omega) (by omega)]; exact t3 pos y
    rw [if_pos y, sg_lt y]
    simp (disch := omega) only [rd_I_mk, rd_R_mk, rd_L_mk, rd_D_mk, kd_mk, wr_I_mk, cp_mk, gd_true, bd_ret, bd_thr, vl_none, vl_some, iN_add, iN_mul, iN_sub, iN_lt, iN_eq, iN_n, iN_m1, iN_pred, vp_iN, K0_le, nr_b0, nr_b1, m1_lt, lt_m1, iN_ne_m1, m1_ne_iN, not_lt_z, true_and, and_true, and_self, or_true, true_or, or_false, false_or, if_true, if_false, ↓reduceIte, eq_self, up_at, up_a, up_k, cp_c, cp_b, Nat.zero_add, Nat.add_zero, Nat.sub_zero, Nat.le_refl, Nat.add_sub_cancel, fu_at, fu_ne, iN_nz, n10_f, n01_f, ofN, qq_at_100, k110b, Nat.lt_irrefl, Nat.not_lt_zero, ne_eq, not_false_eq_true, not_true_eq_false, k0, p1, e17, y, r7, g8, ej, b_310_12]
  · rw [if_neg y]
    simp (disch := omega) only [rd_I_mk, rd_R_mk, rd_L_mk, rd_D_mk, kd_mk, wr_I_mk, cp_mk, gd_true, bd_ret, bd_thr, vl_none, vl_some, iN_add, iN_mul, iN_sub, iN_lt, iN_eq, iN_n, iN_m1, iN_pred, vp_iN, K0_le, nr_b0, nr_b1, m1_lt, lt_m1, iN_ne_m1, m1_ne_iN, not_lt_z, true_and, and_true, and_self, or_true, true_or, or_false, false_or, if_true, if_false, ↓reduceIte, eq_self, up_at, up_a, up_k, cp_c, cp_b, Nat.zero_add, Nat.add_zero, Nat.sub_zero, Nat.le_refl, Nat.add_sub_cancel, fu_at, fu_ne, iN_nz, n10_f, n01_f, ofN, qq_at_100, k110b, Nat.lt_irrefl, Nat.not_lt_zero, ne_eq, not_false_eq_true, not_true_eq_false, k0, p1, e17, y, b_310_12]
theorem c_takes (hL : L_N τ m) (hT : TP I m T) (hP : PS m I T J pos) {ch : Nat} (h1 : 1 ≤ ch) (h2 : ch < 128) : ∃ J', CC (d + 1) 311 [.ref m, .int (iN ch)] (J, τ) = some (.inl (some (.int (b01 (decide (sg T pos = ch))))), (J', τ)) ∧ PS m I T J' (if sg T pos = ch then pos + 1 else pos) ∧ J' (m + 9) = J (m + 9) ∧ J' m 19 = J m 19 := by
  have q := c_peek (d := d) hL hT hP
  obtain ⟨m70, k0, -⟩ := hL
  obtain ⟨p0, p1, p2, p3⟩ := hP
  have t2 := hT.2.1
  have hsb := sg_b hT.2.2.2 pos
  by_cases y : sg T pos = ch
  · have hlt : pos < T.length := sg_ne (by omega)
    rw [if_pos hlt] at q
    rw [decide_eq_true y, if_pos y]
    refine ⟨up_2 J m 18 (iN (pos + 1)), ?_, ⟨hlt, up_at, fun a a1 a2 => by rw [up_c a1]; exact p2 a a1 a2, fun k k1 k2 => by rw [up_k k1]; exact p3 k k1 k2⟩, up_c (by omega), up_k (by omega)⟩
    rw [y] at q
    rw [c_311, b_311_0]
    simp (disch := omega) only [rd_I_mk, rd_R_mk, rd_L_mk, rd_D_mk, kd_mk, wr_I_mk, cp_mk, gd_true, bd_ret, bd_thr, vl_none, vl_some, iN_add, iN_mul, iN_sub, iN_lt, iN_eq, iN_n, iN_m1, iN_pred, vp_iN, K0_le, nr_b0, nr_b1, m1_lt, lt_m1, iN_ne_m1, m1_ne_iN, not_lt_z, true_and, and_true, and_self, or_true, true_or, or_false, false_or, if_true, if_false, ↓reduceIte, eq_self, up_at, up_a, up_k, cp_c, cp_b, Nat.zero_add, Nat.add_zero, Nat.sub_zero, Nat.le_refl, Nat.add_sub_cancel, fu_at, fu_ne, iN_nz, n10_f, n01_f, ofN, qq_at_100, k110b, Nat.lt_irrefl, Nat.not_lt_zero, ne_eq, not_false_eq_true, not_true_eq_false, k0, q, b_311_2, b_311_7, p1, b_311_16, b_311_18, nr_b1]
    rfl
  · rw [decide_eq_false y, if_neg y]
    have hup : up_2 J m 18 (iN pos) = J := by
      funext c j
      by_cases e : c = m
      · subst e
        by_cases e2 : j = 18
        · subst e2; rw [up_at, p1]
        · rw [up_k e2]
      · rw [up_c e]
    have hne : ((if pos < T.length then iN (sg T pos) else m1) = iN ch) = False := by
      split
      · exact (iN_eq (by omega) (by omega)).trans (eq_false y)
      · exact m1_ne_iN (by omega)
    refine ⟨J, ?_, ⟨p0, p1, p2, p3⟩, rfl, rfl⟩
    rw [c_311, b_311_0]
    simp (disch := omega) only [kd_mk, k0, gd_true, q, bd_ret, vl_some, b_311_2, hne, if_false, b_311_7, if_true, rd_I_mk, p1, b_311_16, wr_I_mk, and_self, true_and, and_true, K0_le, iN_add, Nat.add_zero, hup, b_311_18, nr_b0]
    rfl
theorem c_takesAll (hL : L_N τ m) (hT : TP I m T) {s : Nat} {F : List Nat} (hF : St I τ s F) (h0 : ∀ c ∈ F, 1 ≤ c) (hP : PS m I T J pos) : ∃ J', CC (d + 4) 313 [.ref m, .ref s] (J, τ) = some (.inl (some (.int (b01 (lit T F pos).1))), (J', τ)) ∧ PS m I T J' (lit T F pos).2 ∧ J' (m + 9) = J (m + 9) ∧ J' m 19 = J m 19 := by
  have k0 := hL.2.1
  have m70 := hL.1
  have ks : tK τ s = (0, 0) := hF.2.2.1
  have hl60 := hF.2.2.2.2.2.2.1
  have hFJ : ∀ K : qq_I, (∀ a, a ≠ m → a ≠ m + 9 → K a = I a) → St K τ s F := fun K hK => St_same hF (fun a ha => ⟨hK a (by omega) (by omega), rfl, fun _ => rfl⟩)
  have lp : ∀ n i (q : Nat) (K : qq_I), i + n = F.length → PS m I T K q → ∃ J', RR (d + 4) 313 2 [some (.ref m), some (.ref s), some (.int (iN i))] [] (K, τ) = some (.inl (some (.int (b01 (lit T (F.drop i) q).1))), (J', τ)) ∧ PS m I T J' (lit T (F.drop i) q).2 ∧ J' (m + 9) = K (m + 9) ∧ J' m 19 = K m 19 := by
    intro n
    induction n with
    | zero =>
      intro i q K hi hK
      have hi : i = F.length := hi
      have e : F.drop i = [] := by rw [hi]; exact List.drop_length
      have s1 := c_strLen (d := d + 2) (hFJ K hK.2.2.1)
      rw [e]
      refine ⟨K, ?_, hK, rfl, rfl⟩
      subst hi
      rw [b_313_2]
      simp (disch := omega) only [rd_I_mk, rd_R_mk, rd_L_mk, rd_D_mk, kd_mk, wr_I_mk, cp_mk, gd_true, bd_ret, bd_thr, vl_none, vl_some, iN_add, iN_mul, iN_sub, iN_lt, iN_eq, iN_n, iN_m1, iN_pred, vp_iN, K0_le, nr_b0, nr_b1, m1_lt, lt_m1, iN_ne_m1, m1_ne_iN, not_lt_z, true_and, and_true, and_self, or_true, true_or, or_false, false_or, if_true, if_false, ↓reduceIte, eq_self, up_at, up_a, up_k, cp_c, cp_b, Nat.zero_add, Nat.add_zero, Nat.sub_zero, Nat.le_refl, Nat.add_sub_cancel, fu_at, fu_ne, iN_nz, n10_f, n01_f, ofN, qq_at_100, k110b, Nat.lt_irrefl, Nat.not_lt_zero, ne_eq, not_false_eq_true, not_true_eq_false, ks, s1, b_313_5, Nat.lt_irrefl, nr_b1]
      rfl
    | succ n ih =>
      intro i q K hi hK
      have e : i < F.length := by omega
      have hd : F.drop i = F[i] :: F.drop (i + 1) := List.drop_eq_getElem_cons e
      have s1 := c_strLen (d := d + 2) (hFJ K hK.2.2.1)
      have s2 := c_strAt (d := d) (hFJ K hK.2.2.1) e
      have hc1 := h0 _ (List.getElem_mem e)
      have hc2 := hF.2.2.2.2.2.2.2.1 _ (List.getElem_mem e)
      obtain ⟨K1, u1, u2, u3, u4⟩ := c_takes (d := d + 2) hL hT hK hc1 hc2
      rw [hd, lit]
      by_cases y : sg T q = F[i]
      · rw [decide_eq_true y, b01_t] at u1
        rw [if_pos y] at u2 ⊢
        obtain ⟨J', v1, v2, v3, v4⟩ := ih (i + 1) (q + 1) K1 (by omega) u2
        refine ⟨J', ?_, v2, v3.trans u3, v4.trans u4⟩
        rw [b_313_2]
        simp (disch := omega) only [rd_I_mk, rd_R_mk, rd_L_mk, rd_D_mk, kd_mk, wr_I_mk, cp_mk, gd_true, bd_ret, bd_thr, vl_none, vl_some, iN_add, iN_mul, iN_sub, iN_lt, iN_eq, iN_n, iN_m1, iN_pred, vp_iN, K0_le, nr_b0, nr_b1, m1_lt, lt_m1, iN_ne_m1, m1_ne_iN, not_lt_z, true_and, and_true, and_self, or_true, true_or, or_false, false_or, if_true, if_false, ↓reduceIte, eq_self, up_at, up_a, up_k, cp_c, cp_b, Nat.zero_add, Nat.add_zero, Nat.sub_zero, Nat.le_refl, Nat.add_sub_cancel, fu_at, fu_ne, iN_nz, n10_f, n01_f, ofN, qq_at_100, k110b, Nat.lt_irrefl, Nat.not_lt_zero, ne_eq, not_false_eq_true, not_true_eq_false, ks, s1, b_313_5, e, s2, b_313_10, k0, u1, b_313_11]
        exact v1
      · rw [decide_eq_false y, b01_f] at u1
        rw [if_neg y] at u2 ⊢
        refine ⟨K1, ?_, u2, u3, u4⟩
        rw [b_313_2]
        simp (disch := omega) only [rd_I_mk, rd_R_mk, rd_L_mk, rd_D_mk, kd_mk, wr_I_mk, cp_mk, gd_true, bd_ret, bd_thr, vl_none, vl_some, iN_add, iN_mul, iN_sub, iN_lt, iN_eq, iN_n, iN_m1, iN_pred, vp_iN, K0_le, nr_b0, nr_b1, m1_lt, lt_m1, iN_ne_m1, m1_ne_iN, not_lt_z, true_and, and_true, and_self, or_true, true_or, or_false, false_or, if_true, if_false, ↓reduceIte, eq_self, up_at, up_a, up_k, cp_c, cp_b, Nat.zero_add, Nat.add_zero, Nat.sub_zero, Nat.le_refl, Nat.add_sub_cancel, fu_at, fu_ne, iN_nz, n10_f, n01_f, ofN, qq_at_100, k110b, Nat.lt_irrefl, Nat.not_lt_zero, ne_eq, not_false_eq_true, not_true_eq_false, ks, s1, b_313_5, e, s2, b_313_10, k0, u1, b_313_11, nr_b0]
        rfl
  obtain ⟨J', v⟩ := lp F.length 0 pos J (Nat.zero_add _) hP
  refine ⟨J', ?_⟩
  rw [c_313, b_313_0]
  exact v
theorem c_numberM (hL : L_N τ m) (hT : TP I m T) (hP : PS m I T J pos) {most ix : Nat} (hm : most ≤ 3) (hix : ix < 155) : ∃ J', CC (d + 1) 312 [.ref m, .int (iN most), .int (iN ix)] (J, τ) = some (.inl (some (.int (b01 (decide ((rdN T most pos 0).2 ≠ pos))))), (J', τ)) ∧ PS m I T J' (rdN T most pos 0).2 ∧ J' (m + 9) = fu (J (m + 9)) ix (iN (rdN T most pos 0).1) ∧ J' m 19 = J m 19 := by
  have hL0 := hL
  obtain ⟨m70, k0, r0, r1, r2, r3, r4, r5, r6, r7, r8, g1, g2, g3, g4, g5, g6, g7, g8, g9⟩ := hL
  have t2 := hT.2.1
  have lp : ∀ n cnt v (K : qq_I), cnt + n = most → v < 10 ^ cnt → PS m I T K (pos + cnt) → ∃ K' cnt', RR (d + 1) 312 4 [some (.ref m), some (.int (iN most)), some (.int (iN ix)), some (.int (iN v)), some (.int (iN cnt))] [] (K, τ) = RR (d + 1) 312 30 [some (.ref m), some (.int (iN most)), some (.int (iN ix)), some (.int (iN (rdN T n (pos + cnt) v).1)), some (.int (iN cnt'))] [] (K', τ) ∧ PS m I T K' (rdN T n (pos + cnt) v).2 ∧ (rdN T n (pos + cnt) v).2 = pos + cnt' ∧ cnt' ≤ 3 ∧ K' (m + 9) = K (m + 9) ∧ K' m 19 = K m 19 := by
    intro n
    induction n with
    | zero =>
      intro cnt v K hc hv hK
      have hc : cnt = most := hc
      subst hc
      refine ⟨K, cnt, ?_, hK, rfl, hm, rfl, rfl⟩
      rw [b_312_4]
      simp (disch := omega) only [rd_I_mk, rd_R_mk, rd_L_mk, rd_D_mk, kd_mk, wr_I_mk, cp_mk, gd_true, bd_ret, bd_thr, vl_none, vl_some, iN_add, iN_mul, iN_sub, iN_lt, iN_eq, iN_n, iN_m1, iN_pred, vp_iN, K0_le, nr_b0, nr_b1, m1_lt, lt_m1, iN_ne_m1, m1_ne_iN, not_lt_z, true_and, and_true, and_self, or_true, true_or, or_false, false_or, if_true, if_false, ↓reduceIte, eq_self, up_at, up_a, up_k, cp_c, cp_b, Nat.zero_add, Nat.add_zero, Nat.sub_zero, Nat.le_refl, Nat.add_sub_cancel, fu_at, fu_ne, iN_nz, n10_f, n01_f, ofN, qq_at_100, k110b, Nat.lt_irrefl, Nat.not_lt_zero, ne_eq, not_false_eq_true, not_true_eq_false, Nat.lt_irrefl]
      rfl
    | succ n ih =>
      intro cnt v K hc hv hK
      have e : cnt < most := by omega
      have q1 := c_peek (d := d) hL0 hT hK
      have hsb := sg_b hT.2.2.2 (pos + cnt)
      have q2 : CC d 209 [.int (if pos + cnt < T.length then iN (sg T (pos + cnt)) else m1), .int (iN 48), .int (iN 57)] (K, τ) = some (.inl (some (.int (b01 (isD (sg T (pos + cnt)))))), (K, τ)) := by
        have := c_isIn (d := d) (I := K) (τ := τ) (x := if pos + cnt < T.length then iN (sg T (pos + cnt)) else m1) (lo := iN 48) (hi := iN 57)
        rw [inB_eq] at this
        rw [this]
        congr 5
        by_cases y : pos + cnt < T.length
        · rw [if_pos y, inB_d hsb]
        · rw [if_neg y, sg_ge (by omega)]; decide
      have h10 : 10 ^ cnt ≤ 100 := by
        have : (10 : Nat) ^ cnt ≤ 10 ^ 2 := Nat.pow_le_pow_right (by omega) (by omega)
        omega
      rw [rdN]
      by_cases y : isD (sg T (pos + cnt)) = true
      · have y2 := isD_iff.mp y
        have hlt : pos + cnt < T.length := sg_ne (by omega)
        rw [y, b01_t] at q2
        rw [if_pos hlt] at q1 q2
        rw [if_pos y]
        have e18 := hK.2.1
        have hv2 : v * 10 + sg T (pos + cnt) - 48 < 10 ^ (cnt + 1) := by rw [Nat.pow_succ]; omega
        obtain ⟨K', cnt', w1, w2, w3, w4, w5, w6⟩ := ih (cnt + 1) (v * 10 + sg T (pos + cnt) - 48) (up_2 K m 18 (iN (pos + cnt + 1))) (by omega) hv2 ⟨by omega, up_at, fun a a1 a2 => by rw [up_c a1]; exact hK.2.2.1 a a1 a2, fun k k1 k2 => by rw [up_k k1]; exact hK.2.2.2 k k1 k2⟩
        refine ⟨K', cnt', ?_, w2, w3, w4, by rw [w5, up_c (by omega)], by rw [w6, up_k (by omega)]⟩
        have e10 : iN 10 * iN v + iN (sg T (pos + cnt)) - iN 48 = iN (v * 10 + sg T (pos + cnt) - 48) := by rw [iN_mul, iN_add, iN_sub (by omega), Nat.mul_comm]
        have hlc : (iN cnt < iN most) = True := (iN_lt (by omega) (by omega)).trans (eq_true e)
        have e1 : (iN 1 = iN 0) = False := (iN_eq (by omega) (by omega)).trans (eq_false (by omega))
        rw [b_312_4]
        simp (disch := omega) only [hlc, if_true, kd_mk, k0, gd_true, q1, bd_ret, vl_some, b_312_9, q2, b_312_12, e1, if_false, b_312_18, e10, rd_I_mk, wr_I_mk, e18, iN_add, K0_le, and_self, true_and, and_true, b_312_28]
        exact w1
      · have y2 : isD (sg T (pos + cnt)) = false := by
          cases q : isD (sg T (pos + cnt)) with
          | true => exact absurd q y
          | false => rfl
        rw [y2, b01_f] at q2
        rw [if_neg y]
        refine ⟨K, cnt, ?_, hK, rfl, by omega, rfl, rfl⟩
        have hlc : (iN cnt < iN most) = True := (iN_lt (by omega) (by omega)).trans (eq_true e)
        rw [b_312_4]
        simp (disch := omega) only [hlc, if_true, kd_mk, k0, gd_true, q1, bd_ret, vl_some, b_312_9, q2, b_312_12]
  obtain ⟨K', cnt', w1, w2, w3, w4, w5, w6⟩ := lp most 0 0 J (Nat.zero_add _) (by decide) hP
  have w3 : (rdN T most pos 0).2 = pos + cnt' := w3
  have w2 : PS m I T K' (rdN T most pos 0).2 := w2
  have w1 : RR (d + 1) 312 4 [some (.ref m), some (.int (iN most)), some (.int (iN ix)), some (.int (iN 0)), some (.int (iN 0))] [] (J, τ) = RR (d + 1) 312 30 [some (.ref m), some (.int (iN most)), some (.int (iN ix)), some (.int (iN (rdN T most pos 0).1)), some (.int (iN cnt'))] [] (K', τ) := w1
  refine ⟨up_2 K' (m + 9) ix (iN (rdN T most pos 0).1), ?_, ⟨w2.1, by rw [up_c (by omega)]; exact w2.2.1, fun a a1 a2 => by rw [up_c a2]; exact w2.2.2.1 a a1 a2, fun k k1 k2 => by rw [up_c (by omega)]; exact w2.2.2.2 k k1 k2⟩, ?_, by rw [up_c (by omega)]; exact w6⟩
  · rw [c_312, b_312_0, w1, b_312_30]
    by_cases y : cnt' = 0
    · have hd : decide ((rdN T most pos 0).2 ≠ pos) = false := decide_eq_false (fun z => z (by omega))
      rw [hd]
      subst y
      simp (disch := omega) only [rd_I_mk, rd_R_mk, rd_L_mk, rd_D_mk, kd_mk, wr_I_mk, cp_mk, gd_true, bd_ret, bd_thr, vl_none, vl_some, iN_add, iN_mul, iN_sub, iN_lt, iN_eq, iN_n, iN_m1, iN_pred, vp_iN, K0_le, nr_b0, nr_b1, m1_lt, lt_m1, iN_ne_m1, m1_ne_iN, not_lt_z, true_and, and_true, and_self, or_true, true_or, or_false, false_or, if_true, if_false, ↓reduceIte, eq_self, up_at, up_a, up_k, cp_c, cp_b, Nat.zero_add, Nat.add_zero, Nat.sub_zero, Nat.le_refl, Nat.add_sub_cancel, fu_at, fu_ne, iN_nz, n10_f, n01_f, ofN, qq_at_100, k110b, Nat.lt_irrefl, Nat.not_lt_zero, ne_eq, not_false_eq_true, not_true_eq_false, k0, r8, g9, b_312_35, Nat.lt_irrefl, b_312_40, nr_b0]
      rfl
    · have hd : decide ((rdN T most pos 0).2 ≠ pos) = true := decide_eq_true (by omega)
      have hy : 0 < cnt' := by omega
      rw [hd]
      simp (disch := omega) only [rd_I_mk, rd_R_mk, rd_L_mk, rd_D_mk, kd_mk, wr_I_mk, cp_mk, gd_true, bd_ret, bd_thr, vl_none, vl_some, iN_add, iN_mul, iN_sub, iN_lt, iN_eq, iN_n, iN_m1, iN_pred, vp_iN, K0_le, nr_b0, nr_b1, m1_lt, lt_m1, iN_ne_m1, m1_ne_iN, not_lt_z, true_and, and_true, and_self, or_true, true_or, or_false, false_or, if_true, if_false, ↓reduceIte, eq_self, up_at, up_a, up_k, cp_c, cp_b, Nat.zero_add, Nat.add_zero, Nat.sub_zero, Nat.le_refl, Nat.add_sub_cancel, fu_at, fu_ne, iN_nz, n10_f, n01_f, ofN, qq_at_100, k110b, Nat.lt_irrefl, Nat.not_lt_zero, ne_eq, not_false_eq_true, not_true_eq_false, k0, r8, g9, b_312_35, hy, b_312_40, nr_b1]
      rfl
  · rw [← w5]
    funext j
    by_cases e : j = ix
    · rw [e, up_at, fu_at]
    · rw [up_k e, fu_ne e]
end MRD
