/-! THE SCRIPT: reading signs, numbers, forms -/
def sg (T : List Nat) (i : Nat) : Nat := T.getD i 0
theorem sg_lt {T : List Nat} {i : Nat} (h : i < T.length) : sg T i = T[i] := by
  unfold sg; rw [List.getD_eq_getElem?_getD, List.getElem?_eq_getElem h]; rfl
theorem sg_ge {T : List Nat} {i : Nat} (h : T.length ≤ i) : sg T i = 0 := by
  unfold sg; rw [List.getD_eq_getElem?_getD, List.getElem?_eq_none h]; rfl
theorem sg_ne {T : List Nat} {i : Nat} (h : sg T i ≠ 0) : i < T.length := by
  rcases Nat.lt_or_ge i T.length with q | q
  · exact q
  · exact absurd (sg_ge q) h
theorem sg_b {T : List Nat} (hT : ∀ x ∈ T, 32 ≤ x ∧ x ≤ 126) (i : Nat) : sg T i < 128 := by
  rcases Nat.lt_or_ge i T.length with q | q
  · rw [sg_lt q]; have := hT _ (List.getElem_mem q); omega
  · rw [sg_ge q]; omega
def isD (n : Nat) : Bool := decide (48 ≤ n) && decide (n ≤ 57)
/-- digits read: the number and where it ends -/
def rdN (T : List Nat) : Nat → Nat → Nat → Nat × Nat
  | 0, pos, v => (v, pos)
  | m + 1, pos, v => if isD (sg T pos) = true then rdN T m (pos + 1) (v * 10 + sg T pos - 48) else (v, pos)
theorem rdN_le {T : List Nat} : ∀ m pos v, v ≤ 999 → pos ≤ T.length → pos ≤ (rdN T m pos v).2 ∧ (rdN T m pos v).2 ≤ T.length ∧ (rdN T m pos v).2 ≤ pos + m := by
  intro m
  induction m with
  | zero => intro pos v _ h; exact ⟨Nat.le_refl _, h, Nat.le_refl _⟩
  | succ m ih =>
    intro pos v hv h
    rw [rdN]
    split
    · rename_i hd
      have h1 : pos < T.length := sg_ne (fun z => by rw [z] at hd; exact absurd hd (by decide))
      obtain ⟨a1, a2, a3⟩ := ih (pos + 1) 0 (by omega) h1
      have e : ∀ w w', (rdN T m (pos + 1) w).2 = (rdN T m (pos + 1) w').2 := by
        have gen : ∀ m q w w', (rdN T m q w).2 = (rdN T m q w').2 := by
          intro m
          induction m with
          | zero => intro q w w'; rfl
          | succ m ih =>
            intro q w w'
            rw [rdN, rdN]
            split
            · exact ih _ _ _
            · rfl
        exact gen m (pos + 1)
      rw [e _ 0]
      omega
    · exact ⟨Nat.le_refl _, h, Nat.le_add_right _ _⟩
theorem rdN_v {T : List Nat} : ∀ m pos v, (rdN T m pos v).1 < (v + 1) * 10 ^ m := by
  intro m
  induction m with
  | zero => intro pos v; rw [rdN, Nat.pow_zero, Nat.mul_one]; exact Nat.lt_succ_self _
  | succ m ih =>
    intro pos v
    rw [rdN]
    split
    · rename_i hd
      have h1 := ih (pos + 1) (v * 10 + sg T pos - 48)
      unfold isD at hd
      rw [Bool.and_eq_true, decide_eq_true_eq, decide_eq_true_eq] at hd
      have h2 : (v * 10 + sg T pos - 48 + 1) * 10 ^ m ≤ (v + 1) * 10 * 10 ^ m := Nat.mul_le_mul_right _ (by omega)
      rw [Nat.pow_succ, Nat.mul_comm (10 ^ m) 10, ← Nat.mul_assoc]
      omega
    · have h2 : 1 ≤ 10 ^ (m + 1) := Nat.pow_pos (by omega)
      show v < (v + 1) * 10 ^ (m + 1)
      have h3 : (v + 1) * 1 ≤ (v + 1) * 10 ^ (m + 1) := Nat.mul_le_mul_left _ h2
      omega
/-- a form read: whether it stands, where reading ended, the numbers -/
def rdF (T : List Nat) : List Nat → Nat → List Nat → Bool × Nat × List Nat
  | [], pos, a => (true, pos, a)
  | ch :: f, pos, a =>
    if ch = 91 then (if sg T pos = f.headD 0 then rdF T f pos a else (true, pos, a))
    else if ch = 93 then rdF T f pos a
    else if ch = 35 ∨ ch = 37 then
      (if (rdN T (if ch = 35 then 1 else 3) pos 0).2 = pos then (false, pos, a) else rdF T f (rdN T (if ch = 35 then 1 else 3) pos 0).2 (a ++ [(rdN T (if ch = 35 then 1 else 3) pos 0).1]))
    else if sg T pos = ch then rdF T f (pos + 1) a else (false, pos, a)
section PA
variable {d : Nat} {I : qq_I} {τ : qq_R} {p Z : Nat} {T : List Nat}
/-- the script and its text -/
def SC (I : qq_I) (τ : qq_R) (p Z : Nat) (T : List Nat) : Prop := L_S τ p ∧ R_B I τ (p + 1) Z T ∧ T.length ≤ 60 ∧ (∀ x ∈ T, 32 ≤ x ∧ x ≤ 126) ∧ p + 16 ≤ Z
theorem SC_same {I' : qq_I} (h : SC I τ p Z T) (hI : ∀ a, (a = p + 1 ∨ a = p + 2 ∨ Z ≤ a) → I' a = I a) : SC I' τ p Z T := by
  obtain ⟨h1, h2, h3, h4, h5⟩ := h
  exact ⟨h1, R_B_same h2 Tq_rf (fun a ha _ => hI a (by omega)), h3, h4, h5⟩
theorem c_signAt (h : SC I τ p Z T) {i : Nat} (hi : i < 1000000) : CC (d + 4) 109 [.ref p, .int (iN i)] (I, τ) = some (.inl (some (.int (iN (sg T i)))), (I, τ)) := by
  obtain ⟨⟨h0, k9, s0, -⟩, h2, h3, h4, h5⟩ := h
  have k2 : tK τ (p + 1) = (2, 0) := h2.2.2.2.1
  have q1 := c_length (d := d + 2) h2
  rw [c_109, b_109_0]
  by_cases z : i < T.length
  · have q2 := c_charAt (d := d) h2 (fun x hx => by have := h4 x hx; omega) z
    have hb := h4 _ (List.getElem_mem z)
    rw [sg_lt z]
    simp (disch := omega) only [rd_I_mk, rd_R_mk, rd_L_mk, rd_D_mk, kd_mk, wr_I_mk, cp_mk, gd_true, bd_ret, bd_thr, vl_none, vl_some, iN_add, iN_mul, iN_sub, iN_lt, iN_eq, iN_n, iN_m1, iN_pred, vp_iN, K0_le, nr_b0, nr_b1, m1_lt, lt_m1, iN_ne_m1, m1_ne_iN, not_lt_z, true_and, and_true, and_self, or_true, true_or, or_false, false_or, if_true, if_false, ↓reduceIte, eq_self, up_at, up_a, up_k, cp_c, cp_b, Nat.zero_add, Nat.add_zero, Nat.sub_zero, Nat.le_refl, Nat.add_sub_cancel, fu_at, fu_ne, iN_nz, n10_f, n01_f, ofN, qq_at_100, k110b, Nat.lt_irrefl, Nat.not_lt_zero, ne_eq, not_false_eq_true, not_true_eq_false, k9, s0, k2, q1, b_109_6, z, q2, b_109_11, b_109_13, nr_ch]
  · rw [sg_ge (by omega)]
    simp (disch := omega) only [rd_I_mk, rd_R_mk, rd_L_mk, rd_D_mk, kd_mk, wr_I_mk, cp_mk, gd_true, bd_ret, bd_thr, vl_none, vl_some, iN_add, iN_mul, iN_sub, iN_lt, iN_eq, iN_n, iN_m1, iN_pred, vp_iN, K0_le, nr_b0, nr_b1, m1_lt, lt_m1, iN_ne_m1, m1_ne_iN, not_lt_z, true_and, and_true, and_self, or_true, true_or, or_false, false_or, if_true, if_false, ↓reduceIte, eq_self, up_at, up_a, up_k, cp_c, cp_b, Nat.zero_add, Nat.add_zero, Nat.sub_zero, Nat.le_refl, Nat.add_sub_cancel, fu_at, fu_ne, iN_nz, n10_f, n01_f, ofN, qq_at_100, k110b, Nat.lt_irrefl, Nat.not_lt_zero, ne_eq, not_false_eq_true, not_true_eq_false, k9, s0, k2, q1, b_109_6, z, b_109_12, b_109_13, nr_ch]
theorem c_readSign (h : SC I τ p Z T) {pos ch : Nat} (hp : I p 5 = iN pos) (hpos : pos < 1000000) (hch : ch < 128) : ∃ I', CC (d + 5) 107 [.ref p, .int (iN ch)] (I, τ) = some (.inl (some (.int (b01 (decide (sg T pos = ch))))), (I', τ)) ∧ I' p 5 = iN (if sg T pos = ch then pos + 1 else pos) ∧ (∀ k, k ≠ 5 → I' p k = I p k) ∧ (∀ a, a ≠ p → I' a = I a) := by
  have q1 := c_signAt (d := d) h hpos
  have hb := sg_b h.2.2.2.1 pos
  have k9 := h.1.2.1
  have p70 := h.1.1
  by_cases z : sg T pos = ch
  · rw [decide_eq_true z, if_pos z]
    refine ⟨up_2 I p 5 (iN (pos + 1)), ?_, up_at, fun k hk => up_k hk, fun a ha => up_c ha⟩
    rw [z] at q1
    rw [c_107, b_107_0]
    simp (disch := omega) only [rd_I_mk, rd_R_mk, rd_L_mk, rd_D_mk, kd_mk, wr_I_mk, cp_mk, gd_true, bd_ret, bd_thr, vl_none, vl_some, iN_add, iN_mul, iN_sub, iN_lt, iN_eq, iN_n, iN_m1, iN_pred, vp_iN, K0_le, nr_b0, nr_b1, m1_lt, lt_m1, iN_ne_m1, m1_ne_iN, not_lt_z, true_and, and_true, and_self, or_true, true_or, or_false, false_or, if_true, if_false, ↓reduceIte, eq_self, up_at, up_a, up_k, cp_c, cp_b, Nat.zero_add, Nat.add_zero, Nat.sub_zero, Nat.le_refl, Nat.add_sub_cancel, fu_at, fu_ne, iN_nz, n10_f, n01_f, ofN, qq_at_100, k110b, Nat.lt_irrefl, Nat.not_lt_zero, ne_eq, not_false_eq_true, not_true_eq_false, k9, hp, q1, b_107_4, b_107_9, b_107_18]
    rfl
  · rw [decide_eq_false z, if_neg z]
    refine ⟨I, ?_, hp, fun k _ => rfl, fun a _ => rfl⟩
    rw [c_107, b_107_0]
    simp (disch := omega) only [rd_I_mk, rd_R_mk, rd_L_mk, rd_D_mk, kd_mk, wr_I_mk, cp_mk, gd_true, bd_ret, bd_thr, vl_none, vl_some, iN_add, iN_mul, iN_sub, iN_lt, iN_eq, iN_n, iN_m1, iN_pred, vp_iN, K0_le, nr_b0, nr_b1, m1_lt, lt_m1, iN_ne_m1, m1_ne_iN, not_lt_z, true_and, and_true, and_self, or_true, true_or, or_false, false_or, if_true, if_false, ↓reduceIte, eq_self, up_at, up_a, up_k, cp_c, cp_b, Nat.zero_add, Nat.add_zero, Nat.sub_zero, Nat.le_refl, Nat.add_sub_cancel, fu_at, fu_ne, iN_nz, n10_f, n01_f, ofN, qq_at_100, k110b, Nat.lt_irrefl, Nat.not_lt_zero, ne_eq, not_false_eq_true, not_true_eq_false, k9, hp, q1, b_107_4, z, b_107_9, b_107_18]
    rfl
theorem inB_d {n : Nat} (h : n < 128) : inB 48 57 (iN n) = isD n := by
  unfold inB isD
  rw [Bool.eq_iff_iff, Bool.and_eq_true, Bool.and_eq_true, Bool.not_eq_true', Bool.not_eq_true', decide_eq_false_iff_not, decide_eq_false_iff_not, decide_eq_true_eq, decide_eq_true_eq, iN_lt (by omega) (by omega), iN_lt (by omega) (by omega)]
  omega
theorem isD_iff {n : Nat} : isD n = true ↔ 48 ≤ n ∧ n ≤ 57 := by
  unfold isD; rw [Bool.and_eq_true, decide_eq_true_eq, decide_eq_true_eq]
theorem k9_4 : ((110 : Nat) ≤ 110 ∧ (110 : Nat) < 113) = True := eq_true (by omega)
theorem c_readNumber (h : SC I τ p Z T) {pos g cn most : Nat} (hp : I p 5 = iN pos) (hpos : pos ≤ T.length) (hg : I p 4 = iN g) (hg4 : g < 4) (hcn : I p 3 = iN cn) (hcn2 : cn < 11) (hm : most ≤ 3) :
    ∃ I', CC (d + 5) 108 [.ref p, .int (iN most)] (I, τ) = some (.inl (some (.int (b01 (decide ((rdN T most pos 0).2 ≠ pos))))), (I', τ)) ∧ I' p 5 = iN (rdN T most pos 0).2 ∧ I' p 4 = iN (if (rdN T most pos 0).2 = pos then g else g + 1) ∧ (∀ k, k ≠ 4 → k ≠ 5 → I' p k = I p k) ∧
      ((rdN T most pos 0).2 ≠ pos → I' (p + 5 + cn) g = iN (rdN T most pos 0).1) ∧ (∀ k, ((rdN T most pos 0).2 = pos ∨ k ≠ g) → I' (p + 5 + cn) k = I (p + 5 + cn) k) ∧ (∀ a, a ≠ p → a ≠ p + 5 + cn → I' a = I a) := by
  have hS := h.1
  obtain ⟨p70, k9, s0, s1, s2, s3, s4, s5, s6⟩ := hS
  have hl60 := h.2.2.1
  have hz16 := h.2.2.2.2
  have lp : ∀ m q v n (J : qq_I), n + m = most → J p 5 = iN q → q ≤ T.length → v + 1 ≤ 10 ^ n → (∀ k, k ≠ 5 → J p k = I p k) → (∀ a, a ≠ p → J a = I a) →
      ∃ J', RR (d + 5) 108 4 [some (.ref p), some (.int (iN most)), some (.int (iN v)), some (.int (iN n))] [] (J, τ) = RR (d + 5) 108 34 [some (.ref p), some (.int (iN most)), some (.int (iN (rdN T m q v).1)), some (.int (iN ((rdN T m q v).2 - q + n)))] [] (J', τ) ∧ J' p 5 = iN (rdN T m q v).2 ∧ (∀ k, k ≠ 5 → J' p k = I p k) ∧ (∀ a, a ≠ p → J' a = I a) := by
    intro m
    induction m with
    | zero =>
      intro q v n J hn h5 hq hv hk ha
      have hn : n = most := hn
      subst hn
      refine ⟨J, ?_, h5, hk, ha⟩
      rw [b_108_4]
      show _ = RR (d + 5) 108 34 [some (.ref p), some (.int (iN n)), some (.int (iN v)), some (.int (iN (q - q + n)))] [] (J, τ)
      rw [Nat.sub_self, Nat.zero_add]
      simp (disch := omega) only [rd_I_mk, rd_R_mk, rd_L_mk, rd_D_mk, kd_mk, wr_I_mk, cp_mk, gd_true, bd_ret, bd_thr, vl_none, vl_some, iN_add, iN_mul, iN_sub, iN_lt, iN_eq, iN_n, iN_m1, iN_pred, vp_iN, K0_le, nr_b0, nr_b1, m1_lt, lt_m1, iN_ne_m1, m1_ne_iN, not_lt_z, true_and, and_true, and_self, or_true, true_or, or_false, false_or, if_true, if_false, ↓reduceIte, eq_self, up_at, up_a, up_k, cp_c, cp_b, Nat.zero_add, Nat.add_zero, Nat.sub_zero, Nat.le_refl, Nat.add_sub_cancel, fu_at, fu_ne, iN_nz, n10_f, n01_f, ofN, qq_at_100, k110b, Nat.lt_irrefl, Nat.not_lt_zero, ne_eq, not_false_eq_true, not_true_eq_false]
    | succ m ih =>
      intro q v n J hn h5 hq hv hk ha
      have hJ : SC J τ p Z T := SC_same h (fun a hz => ha a (by omega))
      have hb := sg_b h.2.2.2.1 q
      have q1 := c_signAt (d := d) hJ (i := q) (by omega)
      have q2 := c_isBetween (d := d + 4) (I := J) (τ := τ) (lo := 48) (hi := 57) (iN (sg T q))
      rw [inB_d hb] at q2
      have e : n < most := by omega
      rw [b_108_4, rdN]
      by_cases hd : isD (sg T q) = true
      · rw [if_pos hd]
        rw [hd, b01_t] at q2
        have hd2 := isD_iff.mp hd
        have hq1 : q < T.length := sg_ne (by omega)
        have hp10 : 10 ^ (n + 1) = 10 ^ n * 10 := Nat.pow_succ ..
        have hp3 : 10 ^ n ≤ 10 ^ 3 := Nat.pow_le_pow_right (by omega) (by omega)
        obtain ⟨J', t1, t2⟩ := ih (q + 1) (v * 10 + sg T q - 48) (n + 1) (up_2 J p 5 (iN (q + 1))) (by omega) up_at hq1 (by omega) (fun k hk2 => by rw [up_k hk2]; exact hk k hk2) (fun a hap => by rw [up_c hap]; exact ha a hap)
        have hle := (rdN_le (T := T) m (q + 1) (v * 10 + sg T q - 48))
        have e2 : (rdN T m (q + 1) (v * 10 + sg T q - 48)).2 - (q + 1) + (n + 1) = (rdN T m (q + 1) (v * 10 + sg T q - 48)).2 - q + n := by
          rcases Nat.lt_or_ge (v * 10 + sg T q - 48) 1000 with z | z
          · have := hle (by omega) hq1; omega
          · have hn2 : n = 2 ∨ n < 2 := by omega
            rcases hn2 with hn2 | hn2
            · subst hn2; omega
            · have : 10 ^ n ≤ 10 ^ 1 := Nat.pow_le_pow_right (by omega) (by omega)
              omega
        refine ⟨J', ?_, t2⟩
        rw [← e2]
        simp (disch := omega) only [rd_I_mk, rd_R_mk, rd_L_mk, rd_D_mk, kd_mk, wr_I_mk, cp_mk, gd_true, bd_ret, bd_thr, vl_none, vl_some, iN_add, iN_mul, iN_sub, iN_lt, iN_eq, iN_n, iN_m1, iN_pred, vp_iN, K0_le, nr_b0, nr_b1, m1_lt, lt_m1, iN_ne_m1, m1_ne_iN, not_lt_z, true_and, and_true, and_self, or_true, true_or, or_false, false_or, if_true, if_false, ↓reduceIte, eq_self, up_at, up_a, up_k, cp_c, cp_b, Nat.zero_add, Nat.add_zero, Nat.sub_zero, Nat.le_refl, Nat.add_sub_cancel, fu_at, fu_ne, iN_nz, n10_f, n01_f, ofN, qq_at_100, k110b, Nat.lt_irrefl, Nat.not_lt_zero, ne_eq, not_false_eq_true, not_true_eq_false, e, k9, h5, q1, b_108_11, q2, b_108_14, b_108_22, b_108_32]
        exact t1
      · rw [if_neg hd]
        have hd' : isD (sg T q) = false := Bool.eq_false_iff.mpr hd
        rw [hd', b01_f] at q2
        refine ⟨J, ?_, h5, hk, ha⟩
        show _ = RR (d + 5) 108 34 [some (.ref p), some (.int (iN most)), some (.int (iN v)), some (.int (iN (q - q + n)))] [] (J, τ)
        rw [Nat.sub_self, Nat.zero_add]
        simp (disch := omega) only [rd_I_mk, rd_R_mk, rd_L_mk, rd_D_mk, kd_mk, wr_I_mk, cp_mk, gd_true, bd_ret, bd_thr, vl_none, vl_some, iN_add, iN_mul, iN_sub, iN_lt, iN_eq, iN_n, iN_m1, iN_pred, vp_iN, K0_le, nr_b0, nr_b1, m1_lt, lt_m1, iN_ne_m1, m1_ne_iN, not_lt_z, true_and, and_true, and_self, or_true, true_or, or_false, false_or, if_true, if_false, ↓reduceIte, eq_self, up_at, up_a, up_k, cp_c, cp_b, Nat.zero_add, Nat.add_zero, Nat.sub_zero, Nat.le_refl, Nat.add_sub_cancel, fu_at, fu_ne, iN_nz, n10_f, n01_f, ofN, qq_at_100, k110b, Nat.lt_irrefl, Nat.not_lt_zero, ne_eq, not_false_eq_true, not_true_eq_false, e, k9, h5, q1, b_108_11, q2, b_108_14]
  obtain ⟨J, t1, t2, t3, t4⟩ := lp most pos 0 0 I (Nat.zero_add _) hp hpos (Nat.le_refl _) (fun _ _ => rfl) (fun _ _ => rfl)
  obtain ⟨b1, b2, b3⟩ := rdN_le (T := T) most pos 0 (by omega) hpos
  have j4 : J p 4 = iN g := by rw [t3 4 (by omega)]; exact hg
  have j3 : J p 3 = iN cn := by rw [t3 3 (by omega)]; exact hcn
  have s5' := s5 cn hcn2
  have s6' := s6 cn hcn2
  by_cases z : (rdN T most pos 0).2 = pos
  · rw [decide_eq_false (fun y => y z), if_pos z]
    refine ⟨J, ?_, t2, j4, fun k _ h5 => t3 k h5, fun y => absurd z y, fun k _ => by rw [t4 _ (by omega)], fun a ha _ => t4 a ha⟩
    rw [c_108, b_108_0, t1, z, Nat.sub_self, Nat.add_zero, b_108_34, if_pos rfl, b_108_40, gd_t (of_eq_true nr_b0)]
    rfl
  · rw [decide_eq_true z, if_neg z]
    have e0 : ¬ (rdN T most pos 0).2 - pos + 0 = 0 := by omega
    have e1 : (rdN T most pos 0).2 - pos + 0 < 1000 := by omega
    refine ⟨up_2 (up_2 J (p + 5 + cn) g (iN (rdN T most pos 0).1)) p 4 (iN (g + 1)), ?_, ?_, up_at, fun k h4 h5 => ?_, fun _ => ?_, fun k hk => ?_, fun a h1 h2 => ?_⟩
    · rw [c_108, b_108_0, t1]
      generalize (rdN T most pos 0).2 - pos + 0 = w at e0 e1 ⊢
      rw [b_108_34]
      simp (disch := omega) only [rd_I_mk, rd_R_mk, rd_L_mk, rd_D_mk, kd_mk, wr_I_mk, cp_mk, gd_true, bd_ret, bd_thr, vl_none, vl_some, iN_add, iN_mul, iN_sub, iN_lt, iN_eq, iN_n, iN_m1, iN_pred, vp_iN, K0_le, nr_b0, nr_b1, m1_lt, lt_m1, iN_ne_m1, m1_ne_iN, not_lt_z, true_and, and_true, and_self, or_true, true_or, or_false, false_or, if_true, if_false, ↓reduceIte, eq_self, up_at, up_a, up_k, cp_c, cp_b, Nat.zero_add, Nat.add_zero, Nat.sub_zero, Nat.le_refl, Nat.add_sub_cancel, fu_at, fu_ne, iN_nz, n10_f, n01_f, ofN, qq_at_100, k110b, Nat.lt_irrefl, Nat.not_lt_zero, ne_eq, not_false_eq_true, not_true_eq_false, e0, k9, j4, hg4, s2, s4, j3, s5', s6', b_108_51, b_108_57, k9_4]
      rfl
    · rw [up_k (by omega), up_c (by omega)]; exact t2
    · rw [up_k h4, up_c (by omega)]; exact t3 k h5
    · rw [up_c (by omega), up_at]
    · rw [up_c (by omega), up_k (by omega), t4 _ (by omega)]
    · rw [up_c h1, up_c h2]; exact t4 a h1
end PA
