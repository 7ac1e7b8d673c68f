/-! THE MODEL: a writ is not open any more -/
def clG (S : sS) (k : Nat) (g : Bool) : sS := if g = true then clS S k else (s_P S, su_close (s_U S) k, s_M S, s_N S)
section MX
variable {d : Nat} {I : qq_I} {τ : qq_R} {m B : Nat} {S : sS}
/-- the shift of the writs behind -/
theorem c_shift (hL : L_N τ m) {k n : Nat} (hn : n ≤ 8) (hk : k < n) (x1 x2 x3 : Int32) (h10 : I (m + 1) 10 = iN n) :
    ∀ q j (J : qq_I), j + q = 37 + 6 * (n - 1) → 37 + 6 * k ≤ j → (∀ i, J (m + 1) i = if 37 + 6 * k ≤ i ∧ i < j then I (m + 1) (i + 6) else I (m + 1) i) → (∀ c, c ≠ m + 1 → J c = I c) →
      ∃ J', RR (d + 1) 236 41 [some (.ref m), some (.int x1), some (.int x2), some (.int x3), some (.int (iN j))] [] (J, τ) = RR (d + 1) 236 73 [some (.ref m), some (.int x1), some (.int x2), some (.int x3), some (.int (iN (37 + 6 * (n - 1))))] [] (up_2 J' (m + 1) 10 (iN (n - 1)), τ) ∧
        (∀ i, J' (m + 1) i = if 37 + 6 * k ≤ i ∧ i < 37 + 6 * (n - 1) then I (m + 1) (i + 6) else I (m + 1) i) ∧ (∀ c, c ≠ m + 1 → J' c = I c) := by
  obtain ⟨m70, k0, r0, -, -, -, -, -, -, -, -, g1, -⟩ := hL
  intro q
  induction q with
  | zero =>
    intro j J hj hj2 hf hJ
    have hj : j = 37 + 6 * (n - 1) := hj
    have e10 : J (m + 1) 10 = iN n := by rw [hf 10, if_neg (by omega)]; exact h10
    refine ⟨J, ?_, by rw [hj] at hf; exact hf, hJ⟩
    rw [hj, b_236_41]
    have e1 : iN n - iN 1 = iN (n - 1) := iN_sub (by omega)
    simp (disch := omega) only [rd_I_mk, rd_R_mk, rd_L_mk, rd_D_mk, kd_mk, wr_I_mk, cp_mk, gd_true, bd_ret, bd_thr, vl_none, vl_some, iN_add, iN_mul, iN_sub, iN_lt, iN_eq, iN_n, iN_m1, iN_pred, vp_iN, K0_le, nr_b0, nr_b1, m1_lt, lt_m1, iN_ne_m1, m1_ne_iN, not_lt_z, true_and, and_true, and_self, or_true, true_or, or_false, false_or, if_true, if_false, ↓reduceIte, eq_self, up_at, up_a, up_k, cp_c, cp_b, Nat.zero_add, Nat.add_zero, Nat.sub_zero, Nat.le_refl, Nat.add_sub_cancel, fu_at, fu_ne, iN_nz, n10_f, n01_f, ofN, qq_at_100, k110b, Nat.lt_irrefl, Nat.not_lt_zero, ne_eq, not_false_eq_true, not_true_eq_false, k0, r0, g1, e10]
  | succ q ih =>
    intro j J hj hj2 hf hJ
    have e10 : J (m + 1) 10 = iN n := by rw [hf 10, if_neg (by omega)]; exact h10
    have ej : J (m + 1) (j + 6) = I (m + 1) (j + 6) := by rw [hf (j + 6), if_neg (by omega)]
    have e : j < 37 + 6 * (n - 1) := by omega
    obtain ⟨J', t1, t2⟩ := ih (j + 1) (up_2 J (m + 1) j (I (m + 1) (j + 6))) (by omega) (by omega) (fun i => by
      by_cases y : i = j
      · rw [y, up_at, if_pos (by omega)]
      · rw [up_k y, hf i]
        by_cases z : 37 + 6 * k ≤ i ∧ i < j
        · rw [if_pos z, if_pos (by omega)]
        · rw [if_neg z, if_neg (by omega)]) (fun c hc => by rw [up_c hc]; exact hJ c hc)
    refine ⟨J', ?_, t2⟩
    rw [b_236_41]
    simp (disch := omega) only [rd_I_mk, rd_R_mk, rd_L_mk, rd_D_mk, kd_mk, wr_I_mk, cp_mk, gd_true, bd_ret, bd_thr, vl_none, vl_some, iN_add, iN_mul, iN_sub, iN_lt, iN_eq, iN_n, iN_m1, iN_pred, vp_iN, K0_le, nr_b0, nr_b1, m1_lt, lt_m1, iN_ne_m1, m1_ne_iN, not_lt_z, true_and, and_true, and_self, or_true, true_or, or_false, false_or, if_true, if_false, ↓reduceIte, eq_self, up_at, up_a, up_k, cp_c, cp_b, Nat.zero_add, Nat.add_zero, Nat.sub_zero, Nat.le_refl, Nat.add_sub_cancel, fu_at, fu_ne, iN_nz, n10_f, n01_f, ofN, qq_at_100, k110b, Nat.lt_irrefl, Nat.not_lt_zero, ne_eq, not_false_eq_true, not_true_eq_false, k0, r0, g1, e10, e, ej, b_236_63]
    exact t1
theorem c_zeros (hL : L_N τ m) {n : Nat} (hn : n < 8) (x1 x2 x3 : Int32) (h10 : I (m + 1) 10 = iN n) :
    ∀ q w (J : qq_I), w + q = 6 → (∀ i, J (m + 1) i = if 37 + 6 * n ≤ i ∧ i < 37 + 6 * n + w then iN 0 else I (m + 1) i) → (∀ c, c ≠ m + 1 → J c = I c) →
      ∃ J', RR (d + 1) 236 75 [some (.ref m), some (.int x1), some (.int x2), some (.int x3), some (.int (iN w))] [] (J, τ) = RR (d + 1) 236 90 [some (.ref m), some (.int x1), some (.int x2), some (.int x3), some (.int (iN 0))] [] (J', τ) ∧
        (∀ i, J' (m + 1) i = if 37 + 6 * n ≤ i ∧ i < 37 + 6 * n + 6 then iN 0 else I (m + 1) i) ∧ (∀ c, c ≠ m + 1 → J' c = I c) := by
  obtain ⟨m70, k0, r0, -, -, -, -, -, -, -, -, g1, -⟩ := hL
  intro q
  induction q with
  | zero =>
    intro w J hw hf hJ
    have hw : w = 6 := hw
    subst hw
    refine ⟨J, ?_, hf, hJ⟩
    rw [b_236_75]
    simp (disch := omega) only [rd_I_mk, rd_R_mk, rd_L_mk, rd_D_mk, kd_mk, wr_I_mk, cp_mk, gd_true, bd_ret, bd_thr, vl_none, vl_some, iN_add, iN_mul, iN_sub, iN_lt, iN_eq, iN_n, iN_m1, iN_pred, vp_iN, K0_le, nr_b0, nr_b1, m1_lt, lt_m1, iN_ne_m1, m1_ne_iN, not_lt_z, true_and, and_true, and_self, or_true, true_or, or_false, false_or, if_true, if_false, ↓reduceIte, eq_self, up_at, up_a, up_k, cp_c, cp_b, Nat.zero_add, Nat.add_zero, Nat.sub_zero, Nat.le_refl, Nat.add_sub_cancel, fu_at, fu_ne, iN_nz, n10_f, n01_f, ofN, qq_at_100, k110b, Nat.lt_irrefl, Nat.not_lt_zero, ne_eq, not_false_eq_true, not_true_eq_false]
  | succ q ih =>
    intro w J hw hf hJ
    have e10 : J (m + 1) 10 = iN n := by rw [hf 10, if_neg (by omega)]; exact h10
    have e : w < 6 := by omega
    have t := c_sets (d := d) (I := J) k0 m70 r0 g1 (k := n) (w := w) hn e (v := iN 0)
    obtain ⟨J', t1, t2⟩ := ih (w + 1) (up_2 J (m + 1) (37 + 6 * n + w) (iN 0)) (by omega) (fun i => by
      by_cases y : i = 37 + 6 * n + w
      · rw [y, up_at, if_pos (by omega)]
      · rw [up_k y, hf i]
        by_cases z : 37 + 6 * n ≤ i ∧ i < 37 + 6 * n + w
        · rw [if_pos z, if_pos (by omega)]
        · rw [if_neg z, if_neg (by omega)]) (fun c hc => by rw [up_c hc]; exact hJ c hc)
    refine ⟨J', ?_, t2⟩
    rw [b_236_75]
    simp (disch := omega) only [rd_I_mk, rd_R_mk, rd_L_mk, rd_D_mk, kd_mk, wr_I_mk, cp_mk, gd_true, bd_ret, bd_thr, vl_none, vl_some, iN_add, iN_mul, iN_sub, iN_lt, iN_eq, iN_n, iN_m1, iN_pred, vp_iN, K0_le, nr_b0, nr_b1, m1_lt, lt_m1, iN_ne_m1, m1_ne_iN, not_lt_z, true_and, and_true, and_self, or_true, true_or, or_false, false_or, if_true, if_false, ↓reduceIte, eq_self, up_at, up_a, up_k, cp_c, cp_b, Nat.zero_add, Nat.add_zero, Nat.sub_zero, Nat.le_refl, Nat.add_sub_cancel, fu_at, fu_ne, iN_nz, n10_f, n01_f, ofN, qq_at_100, k110b, Nat.lt_irrefl, Nat.not_lt_zero, ne_eq, not_false_eq_true, not_true_eq_false, e, k0, r0, g1, e10, t, b_236_86]
    exact t1
/-- where the cause of one of the first i writs stands -/
def hcz (i j : Nat) : Bool := decide (37 ≤ j ∧ (j - 37) % 6 = 5 ∧ (j - 37) / 6 < i)
theorem c_causes (hL : L_N τ m) {n id : Nat} (hn : n < 8) (x1 x2 : Int32) (h10 : I (m + 1) 10 = iN n) :
    ∀ q i (J : qq_I) (x4 : Int32), i + q = n → x4 = iN i → (∀ j, J (m + 1) j = if hcz i j = true then (if I (m + 1) j = iN (id + 1) then iN 0 else I (m + 1) j) else I (m + 1) j) → (∀ c, c ≠ m + 1 → J c = I c) →
      ∃ J', RR (d + 1) 236 90 [some (.ref m), some (.int x1), some (.int x2), some (.int (iN id)), some (.int x4)] [] (J, τ) = some (.inl none, (J', τ)) ∧
        (∀ j, J' (m + 1) j = if hcz n j = true then (if I (m + 1) j = iN (id + 1) then iN 0 else I (m + 1) j) else I (m + 1) j) ∧ (∀ c, c ≠ m + 1 → J' c = I c) := by
  obtain ⟨m70, k0, r0, -, -, -, -, -, -, -, -, g1, -⟩ := hL
  have no10 : ∀ i, hcz i 10 = false := fun i => decide_eq_false (by omega)
  intro q
  induction q with
  | zero =>
    intro i J x4 hi hx hf hJ
    subst hx
    have hi : i = n := hi
    subst hi
    have e10 : J (m + 1) 10 = iN i := by rw [hf 10, no10, if_neg (by decide)]; exact h10
    refine ⟨J, ?_, hf, hJ⟩
    rw [b_236_90]
    simp (disch := omega) only [rd_I_mk, rd_R_mk, rd_L_mk, rd_D_mk, kd_mk, wr_I_mk, cp_mk, gd_true, bd_ret, bd_thr, vl_none, vl_some, iN_add, iN_mul, iN_sub, iN_lt, iN_eq, iN_n, iN_m1, iN_pred, vp_iN, K0_le, nr_b0, nr_b1, m1_lt, lt_m1, iN_ne_m1, m1_ne_iN, not_lt_z, true_and, and_true, and_self, or_true, true_or, or_false, false_or, if_true, if_false, ↓reduceIte, eq_self, up_at, up_a, up_k, cp_c, cp_b, Nat.zero_add, Nat.add_zero, Nat.sub_zero, Nat.le_refl, Nat.add_sub_cancel, fu_at, fu_ne, iN_nz, n10_f, n01_f, ofN, qq_at_100, k110b, Nat.lt_irrefl, Nat.not_lt_zero, ne_eq, not_false_eq_true, not_true_eq_false, k0, r0, g1, e10]
  | succ q ih =>
    intro i J x4 hi hx hf hJ
    subst hx
    have e10 : J (m + 1) 10 = iN n := by rw [hf 10, no10, if_neg (by decide)]; exact h10
    have e : i < n := by omega
    have hn0 : hcz i (37 + 6 * i + 5) = false := decide_eq_false (by omega)
    have ec : J (m + 1) (37 + 6 * i + 5) = I (m + 1) (37 + 6 * i + 5) := by rw [hf, hn0, if_neg (by decide)]
    have q1 := c_of (d := d) (I := J) k0 r0 g1 (k := i) (w := 5) (by omega) (by omega)
    rw [ec] at q1
    have t := c_sets (d := d) (I := J) k0 m70 r0 g1 (k := i) (w := 5) (by omega) (by omega) (v := if I (m + 1) (37 + 6 * i + 5) = iN (id + 1) then iN 0 else I (m + 1) (37 + 6 * i + 5))
    obtain ⟨J', t1, t2⟩ := ih (i + 1) (up_2 J (m + 1) (37 + 6 * i + 5) (if I (m + 1) (37 + 6 * i + 5) = iN (id + 1) then iN 0 else I (m + 1) (37 + 6 * i + 5))) (iN (i + 1)) (by omega) rfl (fun j => by
      by_cases y : j = 37 + 6 * i + 5
      · have hy : hcz (i + 1) (37 + 6 * i + 5) = true := decide_eq_true (by omega)
        rw [y, up_at, hy, if_pos rfl]
      · rw [up_k y, hf j]
        have hy : hcz (i + 1) j = hcz i j := by
          unfold hcz
          rw [Bool.eq_iff_iff, decide_eq_true_eq, decide_eq_true_eq]
          omega
        rw [hy]) (fun c hc => by rw [up_c hc]; exact hJ c hc)
    refine ⟨J', ?_, t2⟩
    rw [b_236_90]
    by_cases z : I (m + 1) (37 + 6 * i + 5) = iN (id + 1)
    · rw [if_pos z] at t t1
      rw [z] at q1
      simp (disch := omega) only [rd_I_mk, rd_R_mk, rd_L_mk, rd_D_mk, kd_mk, wr_I_mk, cp_mk, gd_true, bd_ret, bd_thr, vl_none, vl_some, iN_add, iN_mul, iN_sub, iN_lt, iN_eq, iN_n, iN_m1, iN_pred, vp_iN, K0_le, nr_b0, nr_b1, m1_lt, lt_m1, iN_ne_m1, m1_ne_iN, not_lt_z, true_and, and_true, and_self, or_true, true_or, or_false, false_or, if_true, if_false, ↓reduceIte, eq_self, up_at, up_a, up_k, cp_c, cp_b, Nat.zero_add, Nat.add_zero, Nat.sub_zero, Nat.le_refl, Nat.add_sub_cancel, fu_at, fu_ne, iN_nz, n10_f, n01_f, ofN, qq_at_100, k110b, Nat.lt_irrefl, Nat.not_lt_zero, ne_eq, not_false_eq_true, not_true_eq_false, k0, r0, g1, e10, e, q1, b_236_103, b_236_113, t, b_236_114]
      exact t1
    · rw [if_neg z] at t t1
      simp (disch := omega) only [kd_mk, rd_R_mk, rd_I_mk, k0, r0, g1, gd_true, true_and, and_true, and_self, vp_iN, iN_n, e10, iN_lt, e, if_true, q1, bd_ret, vl_some, b_236_103, iN_add, z, if_false, b_236_113, t, vl_none, b_236_114]
      exact t1
theorem c_closes0F (hL : L_N τ m) (hR : R_F (I (m + 1)) S) (w1 : p_np (s_P S) ≤ 8) (w2 : p_ns (s_P S) ≤ 6) (hwU : wU (s_U S)) {k : Nat} (hk : k < un (s_U S)) (x2 : Int32) : ∃ I', RR (d + 1) 236 35 [some (.ref m), some (.int (iN k)), some (.int x2), some (.int (iN (w_id (ug (s_U S) k)))), none] [] (I, τ) = some (.inl none, (I', τ)) ∧ R_F (I' (m + 1)) (s_P S, su_close (s_U S) k, s_M S, s_N S) ∧ (∀ c, c ≠ m + 1 → I' c = I c) := by
  have hL0 := hL
  obtain ⟨h0, h1, h2, h3, h4, h5, h6, h7, h8, h9, h10, h11, h12, h13, h14⟩ := hR
  have w3 := hwU.1
  have w4 := hwU.2.1
  have hid := (hwU.2.2.2 k hk).1
  have hun := un_close hk
  obtain ⟨J1, a1, a2, a3⟩ := c_shift (d := d) hL0 (n := un (s_U S)) w3 hk (iN k) x2 (iN (w_id (ug (s_U S) k))) h10 (37 + 6 * (un (s_U S) - 1) - (37 + 6 * k)) (37 + 6 * k) I (by omega) (Nat.le_refl _) (fun i => by rw [if_neg (by omega)]) (fun _ _ => rfl)
  obtain ⟨J2, b1, b2, b3⟩ := c_zeros (d := d) (I := up_2 J1 (m + 1) 10 (iN (un (s_U S) - 1))) hL0 (n := un (s_U S) - 1) (by omega) (iN k) x2 (iN (w_id (ug (s_U S) k))) up_at 6 0 _ rfl (fun i => by rw [if_neg (by omega)]) (fun _ _ => rfl)
  have e10 : J2 (m + 1) 10 = iN (un (s_U S) - 1) := by rw [b2 10, if_neg (by omega), up_at]
  obtain ⟨J3, c1, c2, c3⟩ := c_causes (d := d) (I := J2) hL0 (n := un (s_U S) - 1) (id := w_id (ug (s_U S) k)) (by omega) (iN k) x2 e10 (un (s_U S) - 1) 0 J2 (iN 0) (Nat.zero_add _) rfl (fun j => by
    have : hcz 0 j = false := decide_eq_false (by omega)
    rw [this, if_neg (by decide)]) (fun _ _ => rfl)
  have F1 : ∀ i, hcz (un (s_U S) - 1) i = false → i ≠ 10 → ¬ (37 + 6 * (un (s_U S) - 1) ≤ i ∧ i < 37 + 6 * (un (s_U S) - 1) + 6) → J3 (m + 1) i = if 37 + 6 * k ≤ i ∧ i < 37 + 6 * (un (s_U S) - 1) then I (m + 1) (i + 6) else I (m + 1) i := fun i q1 q2 q3 => by
    rw [c2 i, q1, if_neg (by decide), b2 i, if_neg q3, up_k q2, a2 i]
  have low : ∀ i, i < 37 → i ≠ 10 → J3 (m + 1) i = I (m + 1) i := fun i q1 q2 => by
    rw [F1 i (decide_eq_false (by omega)) q2 (by omega), if_neg (by omega)]
  have mid : ∀ i w, i < un (s_U S) - 1 → w < 5 → J3 (m + 1) (37 + 6 * i + w) = I (m + 1) (37 + 6 * (if i < k then i else i + 1) + w) := fun i w q1 q2 => by
    rw [F1 _ (decide_eq_false (by omega)) (by omega) (by omega)]
    by_cases y : i < k
    · rw [if_pos y, if_neg (by omega)]
    · rw [if_neg y, if_pos (by omega)]
      congr 1 <;> omega
  have cau : ∀ i, i < un (s_U S) - 1 → J3 (m + 1) (37 + 6 * i + 5) = if I (m + 1) (37 + 6 * (if i < k then i else i + 1) + 5) = iN (w_id (ug (s_U S) k) + 1) then iN 0 else I (m + 1) (37 + 6 * (if i < k then i else i + 1) + 5) := fun i q1 => by
    have e : J2 (m + 1) (37 + 6 * i + 5) = I (m + 1) (37 + 6 * (if i < k then i else i + 1) + 5) := by
      rw [b2 _, if_neg (by omega), up_k (by omega), a2 _]
      by_cases y : i < k
      · rw [if_pos y, if_neg (by omega)]
      · rw [if_neg y, if_pos (by omega)]
        congr 1 <;> omega
    have hy : hcz (un (s_U S) - 1) (37 + 6 * i + 5) = true := decide_eq_true (by omega)
    rw [c2 _, hy, if_pos rfl, e]
  refine ⟨J3, ?_, ⟨(low 0 (by omega) (by omega)).trans h0, (low 1 (by omega) (by omega)).trans h1, (low 2 (by omega) (by omega)).trans h2, (low 3 (by omega) (by omega)).trans h3, (low 4 (by omega) (by omega)).trans h4, (low 5 (by omega) (by omega)).trans h5, (low 6 (by omega) (by omega)).trans h6, (low 7 (by omega) (by omega)).trans h7, (low 8 (by omega) (by omega)).trans h8, (low 9 (by omega) (by omega)).trans h9, ?_, fun i hi => ?_, fun i hi => ?_, fun i hi => ?_, fun w hw => ?_⟩, fun c hc => by rw [c3 c hc, b3 c hc, up_c hc, a3 c hc]⟩
  · rw [b_236_35]
    simp (disch := omega) only [rd_I_mk, rd_R_mk, rd_L_mk, rd_D_mk, kd_mk, wr_I_mk, cp_mk, gd_true, bd_ret, bd_thr, vl_none, vl_some, iN_add, iN_mul, iN_sub, iN_lt, iN_eq, iN_n, iN_m1, iN_pred, vp_iN, K0_le, nr_b0, nr_b1, m1_lt, lt_m1, iN_ne_m1, m1_ne_iN, not_lt_z, true_and, and_true, and_self, or_true, true_or, or_false, false_or, if_true, if_false, ↓reduceIte, eq_self, up_at, up_a, up_k, cp_c, cp_b, Nat.zero_add, Nat.add_zero, Nat.sub_zero, Nat.le_refl, Nat.add_sub_cancel, fu_at, fu_ne, iN_nz, n10_f, n01_f, ofN, qq_at_100, k110b, Nat.lt_irrefl, Nat.not_lt_zero, ne_eq, not_false_eq_true, not_true_eq_false]
    rw [a1, b_236_73, b1]
    exact c1
  · have no10 : hcz (un (s_U S) - 1) 10 = false := decide_eq_false (by omega)
    rw [c2 10, no10, if_neg (by decide), e10]
    show _ = iN (un (su_close (s_U S) k))
    rw [hun]
  · have hi : i < p_np (s_P S) := hi
    exact (low _ (by omega) (by omega)).trans (h11 i hi)
  · have hi : i < p_ns (s_P S) := hi
    obtain ⟨y1, y2, y3⟩ := h12 i hi
    exact ⟨(low _ (by omega) (by omega)).trans y1, (low _ (by omega) (by omega)).trans y2, (low _ (by omega) (by omega)).trans y3⟩
  · have hi : i < un (su_close (s_U S) k) := hi
    rw [hun] at hi
    have hug : ug (su_close (s_U S) k) i = dc (w_id (ug (s_U S) k)) (ug (s_U S) (if i < k then i else i + 1)) := ug_close hk hi
    show _ = iN (w_id (ug (su_close (s_U S) k) i)) ∧ _ = iN (w_of (ug (su_close (s_U S) k) i)) ∧ _ = iN (w_la (ug (su_close (s_U S) k) i)) ∧ _ = iN (w_ba (ug (su_close (s_U S) k) i)) ∧ _ = iN (w_pd (ug (su_close (s_U S) k) i)) ∧ _ = iN (w_ca (ug (su_close (s_U S) k) i))
    rw [hug]
    have hi2 : (if i < k then i else i + 1) < un (s_U S) := by split <;> omega
    have m0 := mid i 0 hi (by omega)
    have m1' := mid i 1 hi (by omega)
    have m2 := mid i 2 hi (by omega)
    have m3 := mid i 3 hi (by omega)
    have m4 := mid i 4 hi (by omega)
    have m5 := cau i hi
    obtain ⟨y1, y2, y3, y4, y5, y6, y7⟩ := hwU.2.2.2 _ hi2
    generalize (if i < k then i else i + 1) = i' at *
    obtain ⟨z1, z2, z3, z4, z5, z6⟩ := h13 i' hi2
    refine ⟨m0.trans z1, m1'.trans z2, m2.trans z3, m3.trans z4, m4.trans z5, ?_⟩
    have hcab : w_ca (ug (s_U S) i') < 2000000 := by
      rcases y7 with y7 | ⟨j, j1, j2⟩
      · omega
      · have := (hwU.2.2.2 j (by omega)).1
        omega
    rw [m5, z6]
    show _ = iN (if w_ca (ug (s_U S) i') = w_id (ug (s_U S) k) + 1 then 0 else w_ca (ug (s_U S) i'))
    have ee : (iN (w_ca (ug (s_U S) i')) = iN (w_id (ug (s_U S) k) + 1)) = (w_ca (ug (s_U S) i') = w_id (ug (s_U S) k) + 1) := iN_eq (by omega) (by omega)
    by_cases y : w_ca (ug (s_U S) i') = w_id (ug (s_U S) k) + 1
    · rw [if_pos y, if_pos (ee.mpr y)]
    · rw [if_neg y, if_neg (fun q => y (ee.mp q))]
  · rw [F1 _ (decide_eq_false (by omega)) (by omega) (by omega), if_neg (by omega)]
    exact h14 w hw
theorem c_closes0 (hL : L_N τ m) (hR : R_F (I (m + 1)) S) (hw : wS B S) {k : Nat} (hk : k < un (s_U S)) (x2 : Int32) : ∃ I', RR (d + 1) 236 35 [some (.ref m), some (.int (iN k)), some (.int x2), some (.int (iN (w_id (ug (s_U S) k)))), none] [] (I, τ) = some (.inl none, (I', τ)) ∧ R_F (I' (m + 1)) (s_P S, su_close (s_U S) k, s_M S, s_N S) ∧ (∀ c, c ≠ m + 1 → I' c = I c) :=
  c_closes0F hL hR hw.2.1.1 hw.2.1.2.1 hw.2.2.1 hk x2
theorem c_closes (hL : L_N τ m) (hR : R_F (I (m + 1)) S) (hw : wS B S) {k : Nat} (hk : k < un (s_U S)) (g : Bool) : ∃ I', CC (d + 1) 236 [.ref m, .int (iN k), .int (b01 g)] (I, τ) = some (.inl none, (I', τ)) ∧ R_F (I' (m + 1)) (clG S k g) ∧ (∀ c, c ≠ m + 1 → I' c = I c) := by
  have hL0 := hL
  obtain ⟨m70, k0, r0, -, -, -, -, -, -, -, -, g1, -⟩ := hL
  have w3 := hw.2.2.1.1
  have w5 := (hw.2.2.1.2.2.2 k hk).2.2.2.2.1
  obtain ⟨z1, z2, z3, z4, z5, z6⟩ := hR.2.2.2.2.2.2.2.2.2.2.2.2.2.1 k hk
  have q0 : CC d 216 [.ref m, .int (iN k), .int (iN 0)] (I, τ) = some (.inl (some (.int (I (m + 1) (37 + 6 * k)))), (I, τ)) := c_of (d := d) (I := I) k0 r0 g1 (k := k) (w := 0) (by omega) (by omega)
  rw [z1] at q0
  have q4 := c_of (d := d) (I := I) k0 r0 g1 (k := k) (w := 4) (by omega) (by omega)
  rw [z5] at q4
  cases g with
  | false =>
    obtain ⟨I', t1, t2, t3⟩ := c_closes0 (d := d) hL0 hR hw hk (iN 0)
    refine ⟨I', ?_, t2, t3⟩
    rw [c_236, b_236_0, b01_f]
    simp (disch := omega) only [rd_I_mk, rd_R_mk, rd_L_mk, rd_D_mk, kd_mk, wr_I_mk, cp_mk, gd_true, bd_ret, bd_thr, vl_none, vl_some, iN_add, iN_mul, iN_sub, iN_lt, iN_eq, iN_n, iN_m1, iN_pred, vp_iN, K0_le, nr_b0, nr_b1, m1_lt, lt_m1, iN_ne_m1, m1_ne_iN, not_lt_z, true_and, and_true, and_self, or_true, true_or, or_false, false_or, if_true, if_false, ↓reduceIte, eq_self, up_at, up_a, up_k, cp_c, cp_b, Nat.zero_add, Nat.add_zero, Nat.sub_zero, Nat.le_refl, Nat.add_sub_cancel, fu_at, fu_ne, iN_nz, n10_f, n01_f, ofN, qq_at_100, k110b, Nat.lt_irrefl, Nat.not_lt_zero, ne_eq, not_false_eq_true, not_true_eq_false, k0, q0, b_236_4]
    exact t1
  | true =>
    by_cases hp : w_pd (ug (s_U S) k) = 1
    · rw [hp] at q4
      have q3 := c_of (d := d) (I := I) k0 r0 g1 (k := k) (w := 3) (by omega) (by omega)
      rw [z4] at q3
      have h2 : I (m + 1) 2 = m_tr (s_M S) := hR.2.2.1
      have h86 : I (m + 1) (85 + 1) = iN (m_bl (s_M S) 1) := hR.2.2.2.2.2.2.2.2.2.2.2.2.2.2 1 (by omega)
      have q5 := c_of (d := d) (I := up_2 I (m + 1) 2 (m_tr (s_M S) - iN (w_ba (ug (s_U S) k)))) k0 r0 g1 (k := k) (w := 3) (by omega) (by omega)
      rw [up_k (by omega), z4] at q5
      have h86' : up_2 I (m + 1) 2 (m_tr (s_M S) - iN (w_ba (ug (s_U S) k))) (m + 1) 86 = iN (m_bl (s_M S) 1) := by rw [up_k (by omega)]; exact h86
      have hw1 := hw.2.1.1
      have hw2 := hw.2.1.2.1
      have hwS1 : wS B (s_P S, s_U S, s_M S, s_N S) := hw
      obtain ⟨I', t1, t2, t3⟩ := c_closes0F (d := d) (I := up_2 (up_2 I (m + 1) 2 (m_tr (s_M S) - iN (w_ba (ug (s_U S) k)))) (m + 1) 86 (iN (m_bl (s_M S) 1 + w_ba (ug (s_U S) k)))) (S := (s_P S, s_U S, sm_back (s_M S) (w_ba (ug (s_U S) k)), s_N S)) hL0 (by
        obtain ⟨h0, h1, h2, h3, h4, h5, h6, h7, h8, h9, h10, h11, h12, h13, h14⟩ := hR
        refine ⟨by rw [up_k (by omega), up_k (by omega)]; exact h0, by rw [up_k (by omega), up_k (by omega)]; exact h1, by rw [up_k (by omega), up_at]; rfl, by rw [up_k (by omega), up_k (by omega)]; exact h3, by rw [up_k (by omega), up_k (by omega)]; exact h4, by rw [up_k (by omega), up_k (by omega)]; exact h5, by rw [up_k (by omega), up_k (by omega)]; exact h6, by rw [up_k (by omega), up_k (by omega)]; exact h7, by rw [up_k (by omega), up_k (by omega)]; exact h8, by rw [up_k (by omega), up_k (by omega)]; exact h9, by rw [up_k (by omega), up_k (by omega)]; exact h10, fun i hi => ?_, fun i hi => ?_, fun i hi => ?_, fun w hw => ?_⟩
        · have hi : i < p_np (s_P S) := hi
          rw [up_k (by omega), up_k (by omega)]; exact h11 i hi
        · have hi : i < p_ns (s_P S) := hi
          rw [up_k (by omega), up_k (by omega), up_k (by omega), up_k (by omega), up_k (by omega), up_k (by omega)]; exact h12 i hi
        · have hi : i < un (s_U S) := hi
          rw [up_k (by omega), up_k (by omega), up_k (by omega), up_k (by omega), up_k (by omega), up_k (by omega), up_k (by omega), up_k (by omega), up_k (by omega), up_k (by omega), up_k (by omega), up_k (by omega)]; exact h13 i hi
        · show _ = iN (fu (m_bl (s_M S)) 1 (m_bl (s_M S) 1 + w_ba (ug (s_U S) k)) w)
          by_cases y : w = 1
          · rw [y, fu_at]; exact up_at
          · rw [fu_ne y, up_k (by omega), up_k (by omega)]; exact h14 w hw) hw1 hw2 hw.2.2.1 hk (iN 1)
      refine ⟨I', ?_, ?_, fun c hc => by rw [t3 c hc, up_c hc, up_c hc]⟩
      · rw [c_236, b_236_0, b01_t]
        simp (disch := omega) only [rd_I_mk, rd_R_mk, rd_L_mk, rd_D_mk, kd_mk, wr_I_mk, cp_mk, gd_true, bd_ret, bd_thr, vl_none, vl_some, iN_add, iN_mul, iN_lt, iN_eq, iN_n, iN_m1, iN_pred, vp_iN, K0_le, nr_b0, nr_b1, m1_lt, lt_m1, iN_ne_m1, m1_ne_iN, not_lt_z, true_and, and_true, and_self, or_true, true_or, or_false, false_or, if_true, if_false, ↓reduceIte, eq_self, up_at, up_a, up_k, cp_c, cp_b, Nat.zero_add, Nat.add_zero, Nat.sub_zero, Nat.le_refl, Nat.add_sub_cancel, fu_at, fu_ne, iN_nz, n10_f, n01_f, ofN, qq_at_100, k110b, Nat.lt_irrefl, Nat.not_lt_zero, ne_eq, not_false_eq_true, not_true_eq_false, k0, q0, b_236_4, q4, b_236_11, r0, g1, h2, q3, b_236_22, b_236_24, h86', q5, b_236_33]
        exact t1
      · unfold clG clS
        rw [if_pos rfl, if_pos hp]
        exact t2
    · have hp0 : w_pd (ug (s_U S) k) = 0 := by omega
      rw [hp0] at q4
      obtain ⟨I', t1, t2, t3⟩ := c_closes0 (d := d) hL0 hR hw hk (iN 1)
      refine ⟨I', ?_, ?_, t3⟩
      · rw [c_236, b_236_0, b01_t]
        simp (disch := omega) only [rd_I_mk, rd_R_mk, rd_L_mk, rd_D_mk, kd_mk, wr_I_mk, cp_mk, gd_true, bd_ret, bd_thr, vl_none, vl_some, iN_add, iN_mul, iN_sub, iN_lt, iN_eq, iN_n, iN_m1, iN_pred, vp_iN, K0_le, nr_b0, nr_b1, m1_lt, lt_m1, iN_ne_m1, m1_ne_iN, not_lt_z, true_and, and_true, and_self, or_true, true_or, or_false, false_or, if_true, if_false, ↓reduceIte, eq_self, up_at, up_a, up_k, cp_c, cp_b, Nat.zero_add, Nat.add_zero, Nat.sub_zero, Nat.le_refl, Nat.add_sub_cancel, fu_at, fu_ne, iN_nz, n10_f, n01_f, ofN, qq_at_100, k110b, Nat.lt_irrefl, Nat.not_lt_zero, ne_eq, not_false_eq_true, not_true_eq_false, k0, q0, b_236_4, q4, b_236_11]
        exact t1
      · unfold clG clS
        rw [if_pos rfl, if_neg hp, sm_back_0]
        exact t2
end MX
