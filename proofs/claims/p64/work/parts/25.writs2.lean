/-! WRITS: a copy, causes, followers -/
/-- how many causes lead to a writ -/
def dpU (U : sU) : Nat → Nat → Nat
  | 0, _ => 0
  | n + 1, k => match pa U k with
    | none => 0
    | some j => dpU U n j + 1
theorem dpU_le {U : sU} (hw : wU U) : ∀ n k, k < un U → dpU U n k ≤ k := by
  intro n
  induction n with
  | zero => intro k _; exact Nat.zero_le _
  | succ n ih =>
    intro k hk
    rw [dpU]
    cases h : pa U k with
    | none => exact Nat.zero_le _
    | some j =>
      have h1 := (pa_lt hw hk h).1
      have h2 := ih j (by omega)
      show dpU U n j + 1 ≤ k
      omega
theorem dpU_st {U : sU} (hw : wU U) : ∀ n k, k < n → k < un U → dpU U (n + 1) k = dpU U n k := by
  intro n
  induction n with
  | zero => intro k h; omega
  | succ n ih =>
    intro k hk hku
    rw [dpU, dpU]
    cases h : pa U k with
    | none => rfl
    | some j =>
      have h1 := (pa_lt hw hku h).1
      show dpU U (n + 1) j + 1 = dpU U n j + 1
      rw [ih j (by omega) (by omega)]
/-- k is a writ or one behind it -/
def beU (U : sU) (q : Nat) : Nat → Nat → Bool
  | 0, _ => false
  | n + 1, k => (k == q) || (match pa U k with
    | none => false
    | some j => beU U q n j)
theorem beU_st {U : sU} (hw : wU U) {q : Nat} : ∀ n k, k < n → k < un U → beU U q (n + 1) k = beU U q n k := by
  intro n
  induction n with
  | zero => intro k h; omega
  | succ n ih =>
    intro k hk hku
    rw [beU, beU]
    cases h : pa U k with
    | none => rfl
    | some j =>
      have h1 := (pa_lt hw hku h).1
      show ((k == q) || beU U q (n + 1) j) = ((k == q) || beU U q n j)
      rw [ih j (by omega) (by omega)]
theorem beU_lt {U : sU} (hw : wU U) {q : Nat} : ∀ n k, k < un U → k < q → beU U q n k = false := by
  intro n
  induction n with
  | zero => intro k _ _; rfl
  | succ n ih =>
    intro k hku hkq
    rw [beU]
    have e : (k == q) = false := by rw [beq_eq_false_iff_ne]; omega
    rw [e, Bool.false_or]
    cases h : pa U k with
    | none => rfl
    | some j =>
      have h1 := (pa_lt hw hku h).1
      exact ih j (by omega) (by omega)
theorem beU_eq {U : sU} {q n : Nat} : beU U q (n + 1) q = true := by
  rw [beU, beq_self_eq_true, Bool.true_or]
/-- with a bit for each number that has a property -/
def mk (g : Nat → Bool) : Nat → Nat
  | 0 => 0
  | n + 1 => mk g n + if g n = true then 2 ^ n else 0
theorem mk_lt (g : Nat → Bool) : ∀ n, mk g n < 2 ^ n := by
  intro n
  induction n with
  | zero => exact Nat.one_pos
  | succ n ih =>
    rw [mk, Nat.pow_succ]
    split <;> omega
theorem mk_bit (g : Nat → Bool) : ∀ n c, c < n → mk g n / 2 ^ c % 2 = if g c = true then 1 else 0 := by
  intro n
  induction n with
  | zero => intro c h; omega
  | succ n ih =>
    intro c hc
    rw [mk]
    have hl := mk_lt g n
    by_cases e : c = n
    · subst e
      by_cases h : g c = true
      · rw [if_pos h, if_pos h, Nat.add_div_right _ (Nat.two_pow_pos c), Nat.div_eq_of_lt hl]
      · rw [if_neg h, if_neg h, Nat.add_zero, Nat.div_eq_of_lt hl]
    · rw [← ih c (by omega)]
      by_cases h : g n = true
      · rw [if_pos h, show n = c + 1 + (n - c - 1) by omega, Nat.pow_add, Nat.pow_succ, Nat.mul_assoc, Nat.add_mul_div_left _ _ (Nat.two_pow_pos c)]
        omega
      · rw [if_neg h, Nat.add_zero]
theorem mk_cong {f g : Nat → Bool} : ∀ n, (∀ k, k < n → f k = g k) → mk f n = mk g n := by
  intro n
  induction n with
  | zero => intro _; rfl
  | succ n ih => intro h; rw [mk, mk, ih (fun k hk => h k (by omega)), h n (by omega)]
theorem mk_or {m n : Nat} (h : m < 2 ^ n) : m ||| 2 ^ n = m + 2 ^ n := by
  have := Nat.two_pow_add_eq_or_of_lt h 1
  rw [Nat.mul_one] at this
  rw [Nat.or_comm, ← this, Nat.add_comm]
theorem mk_zero {g : Nat → Bool} : ∀ n, (∀ k, k < n → g k = false) → mk g n = 0 := by
  intro n
  induction n with
  | zero => intro _; rfl
  | succ n ih => intro h; rw [mk, ih (fun k hk => h k (by omega)), h n (by omega)]; rfl
theorem p2_le {k n : Nat} (h : k ≤ n) : 2 ^ k ≤ 2 ^ n := Nat.pow_le_pow_right (by decide) h
section WR
variable {d : Nat} {I : qq_I} {τ : qq_R} {p : Nat} {U : sU}
theorem c_copyWrits {q : Nat} (hL : L_W τ p) (hQ : L_W τ q) (hR : R_U I q U) (hw : wU U) (hne : p + 7 ≤ q ∨ q + 7 ≤ p) : ∃ I', CC d 120 [.ref p, .ref q] (I, τ) = some (.inl none, (I', τ)) ∧ R_U I' p U ∧ Fr p 7 I I' := by
  obtain ⟨hp, k0, k2, k3, k4, k5, k6, k7, q1, q2, q3, q4, q5, q6⟩ := hL
  obtain ⟨hp', k0', k2', k3', k4', k5', k6', k7', q1', q2', q3', q4', q5', q6'⟩ := hQ
  obtain ⟨r0, r1, r2, r3, r4, r5, r6, r7⟩ := hR
  have w1 := hw.1
  have w4 := hw.2.2.2
  have hn : ¬ q = p := by omega
  generalize hI1 : cp_2 (cp_2 (cp_2 (cp_2 (cp_2 (up_2 (up_2 I p 0 (I q 0)) p 1 (I q 1)) (q + 1) 0 (p + 1) 0 8) (q + 2) 0 (p + 2) 0 8) (q + 3) 0 (p + 3) 0 8) (q + 4) 0 (p + 4) 0 8) (q + 5) 0 (p + 5) 0 8 = I1
  have f1 : ∀ a, (a < p ∨ p + 6 ≤ a) → I1 a = I a := fun a ha => by rw [← hI1]; simp (disch := omega) only [rd_I_mk, rd_R_mk, rd_L_mk, rd_D_mk, kd_mk, wr_I_mk, cp_mk, gd_true, bd_ret, bd_thr, vl_none, vl_some, iN_add, iN_mul, iN_sub, iN_lt, iN_eq, iN_n, iN_m1, iN_pred, vp_iN, K0_le, nr_b0, nr_b1, m1_lt, lt_m1, iN_ne_m1, m1_ne_iN, not_lt_z, true_and, and_true, and_self, or_true, true_or, or_false, false_or, if_true, if_false, ↓reduceIte, eq_self, up_at, up_a, up_k, cp_c, cp_b, Nat.zero_add, Nat.add_zero, Nat.sub_zero, Nat.le_refl, Nat.add_sub_cancel, fu_at, fu_ne, iN_nz, n10_f, n01_f, ofN, qq_at_100, k110b, Nat.lt_irrefl, Nat.not_lt_zero, ne_eq, not_false_eq_true, not_true_eq_false, up_c]
  have f2 := f1 (q + 6) (by omega)
  have f0 : I1 p 0 = iN (un U) := by rw [← hI1]; simp (disch := omega) only [rd_I_mk, rd_R_mk, rd_L_mk, rd_D_mk, kd_mk, wr_I_mk, cp_mk, gd_true, bd_ret, bd_thr, vl_none, vl_some, iN_add, iN_mul, iN_sub, iN_lt, iN_eq, iN_n, iN_m1, iN_pred, vp_iN, K0_le, nr_b0, nr_b1, m1_lt, lt_m1, iN_ne_m1, m1_ne_iN, not_lt_z, true_and, and_true, and_self, or_true, true_or, or_false, false_or, if_true, if_false, ↓reduceIte, eq_self, up_at, up_a, up_k, cp_c, cp_b, Nat.zero_add, Nat.add_zero, Nat.sub_zero, Nat.le_refl, Nat.add_sub_cancel, fu_at, fu_ne, iN_nz, n10_f, n01_f, ofN, qq_at_100, k110b, Nat.lt_irrefl, Nat.not_lt_zero, ne_eq, not_false_eq_true, not_true_eq_false, r0]
  have lp : ∀ m k (J : qq_I), k + m = un U → (∀ a, a ≠ p + 6 → J a = I1 a) → (∀ i, i < k → J (p + 6) i = iN (w_pd (ug U i))) →
      ∃ I', RR d 120 50 [some (.ref p), some (.ref q), some (.int (iN k))] [] (J, τ) = some (.inl none, (I', τ)) ∧ (∀ a, a ≠ p + 6 → I' a = I1 a) ∧ (∀ k, k < un U → I' (p + 6) k = iN (w_pd (ug U k))) := by
    intro m
    induction m with
    | zero =>
      intro k J hk g1 g2
      refine ⟨J, ?_, g1, fun i hi => g2 i (by omega)⟩
      rw [b_120_50]
      have e : ¬ k < un U := by omega
      have e0 := g1 p (by omega)
      simp (disch := omega) only [rd_I_mk, rd_R_mk, rd_L_mk, rd_D_mk, kd_mk, wr_I_mk, cp_mk, gd_true, bd_ret, bd_thr, vl_none, vl_some, iN_add, iN_mul, iN_sub, iN_lt, iN_eq, iN_n, iN_m1, iN_pred, vp_iN, K0_le, nr_b0, nr_b1, m1_lt, lt_m1, iN_ne_m1, m1_ne_iN, not_lt_z, true_and, and_true, and_self, or_true, true_or, or_false, false_or, if_true, if_false, ↓reduceIte, eq_self, up_at, up_a, up_k, cp_c, cp_b, Nat.zero_add, Nat.add_zero, Nat.sub_zero, Nat.le_refl, Nat.add_sub_cancel, fu_at, fu_ne, iN_nz, n10_f, n01_f, ofN, qq_at_100, k110b, Nat.lt_irrefl, Nat.not_lt_zero, ne_eq, not_false_eq_true, not_true_eq_false, k0, e0, f0, e]
    | succ m ih =>
      intro k J hk g1 g2
      rw [b_120_50]
      have e : k < un U := by omega
      have e0 := g1 p (by omega)
      have e1 := g1 (q + 6) (by omega)
      have e2 := vn_pd (w4 k e).2.2.2.2.1
      simp (disch := omega) only [rd_I_mk, rd_R_mk, rd_L_mk, rd_D_mk, kd_mk, wr_I_mk, cp_mk, gd_true, bd_ret, bd_thr, vl_none, vl_some, iN_add, iN_mul, iN_sub, iN_lt, iN_eq, iN_n, iN_m1, iN_pred, vp_iN, K0_le, nr_b0, nr_b1, m1_lt, lt_m1, iN_ne_m1, m1_ne_iN, not_lt_z, true_and, and_true, and_self, or_true, true_or, or_false, false_or, if_true, if_false, ↓reduceIte, eq_self, up_at, up_a, up_k, cp_c, cp_b, Nat.zero_add, Nat.add_zero, Nat.sub_zero, Nat.le_refl, Nat.add_sub_cancel, fu_at, fu_ne, iN_nz, n10_f, n01_f, ofN, qq_at_100, k110b, Nat.lt_irrefl, Nat.not_lt_zero, ne_eq, not_false_eq_true, not_true_eq_false, k0, k0', e0, f0, e, k7, k7', q6, q6', e1, f2, r7, e2, b_120_62]
      refine ih (k + 1) _ (by omega) (fun a ha => ?_) (fun i hi => ?_)
      · rw [up_c ha]; exact g1 a ha
      · by_cases ei : i = k
        · rw [ei, up_at]
        · rw [up_k ei]; exact g2 i (by omega)
  obtain ⟨I', h1, h2, h3⟩ := lp (un U) 0 I1 (by omega) (fun _ _ => rfl) (fun i hi => by omega)
  refine ⟨I', ?_, ?_, ?_⟩
  · rw [c_120]
    simp (disch := omega) only [rd_I_mk, rd_R_mk, rd_L_mk, rd_D_mk, kd_mk, wr_I_mk, cp_mk, gd_true, bd_ret, bd_thr, vl_none, vl_some, iN_add, iN_mul, iN_sub, iN_lt, iN_eq, iN_n, iN_m1, iN_pred, vp_iN, K0_le, nr_b0, nr_b1, m1_lt, lt_m1, iN_ne_m1, m1_ne_iN, not_lt_z, true_and, and_true, and_self, or_true, true_or, or_false, false_or, if_true, if_false, ↓reduceIte, eq_self, up_at, up_a, up_k, cp_c, cp_b, Nat.zero_add, Nat.add_zero, Nat.sub_zero, Nat.le_refl, Nat.add_sub_cancel, fu_at, fu_ne, iN_nz, n10_f, n01_f, ofN, qq_at_100, k110b, Nat.lt_irrefl, Nat.not_lt_zero, ne_eq, not_false_eq_true, not_true_eq_false, b_120_0, b_120_4, b_120_8, b_120_16, b_120_24, b_120_32, b_120_40, b_120_48, k0, k0', k2, k2', q1, q1', k3, k3', q2, q2', k4, k4', q3, q3', k5, k5', q4, q4', k6, k6', q5, q5', Nat.add_right_cancel_iff, hn]
    rw [hI1, h1]
  · refine ⟨?_, ?_, fun k hk => ?_, fun k hk => ?_, fun k hk => ?_, fun k hk => ?_, fun k hk => ?_, h3⟩
    · rw [h2 p (by omega)]; exact f0
    all_goals
      rw [h2 _ (by omega), ← hI1]
      simp (disch := omega) only [rd_I_mk, rd_R_mk, rd_L_mk, rd_D_mk, kd_mk, wr_I_mk, cp_mk, gd_true, bd_ret, bd_thr, vl_none, vl_some, iN_add, iN_mul, iN_sub, iN_lt, iN_eq, iN_n, iN_m1, iN_pred, vp_iN, K0_le, nr_b0, nr_b1, m1_lt, lt_m1, iN_ne_m1, m1_ne_iN, not_lt_z, true_and, and_true, and_self, or_true, true_or, or_false, false_or, if_true, if_false, ↓reduceIte, eq_self, up_at, up_a, up_k, cp_c, cp_b, Nat.zero_add, Nat.add_zero, Nat.sub_zero, Nat.le_refl, Nat.add_sub_cancel, fu_at, fu_ne, iN_nz, n10_f, n01_f, ofN, qq_at_100, k110b, Nat.lt_irrefl, Nat.not_lt_zero, ne_eq, not_false_eq_true, not_true_eq_false, r1, r2, r3, r4, r5, r6]
  · intro a ha
    rw [h2 a (by omega), f1 a (by omega)]
theorem c_countCauses (hL : L_W τ p) (hR : R_U I p U) (hw : wU U) {k : Nat} (hk : k < un U) : CC (d + 1) 127 [.ref p, .int (iN k)] (I, τ) = some (.inl (some (.int (iN (dpU U 8 k)))), (I, τ)) := by
  have hfd := fun k (hk : k < un U) => by
    have := c_find (d := d) hL hR hw (caC (w_ca (ug U k)))
    rw [fiX_ca hw hk] at this
    exact this
  have hD8 := dpU_le hw 8 k hk
  obtain ⟨hp, k0, k2, k3, k4, k5, k6, k7, q1, q2, q3, q4, q5, q6⟩ := hL
  obtain ⟨r0, r1, r2, r3, r4, r5, r6, r7⟩ := hR
  have w1 := hw.1
  have lp : ∀ n dd (o : Option Nat), (∀ j, o = some j → j < un U ∧ j < n) → dd + (match o with | none => 0 | some j => dpU U n j + 1) = dpU U 8 k →
      RR (d + 1) 127 9 [some (.ref p), some (.int (iN k)), some (.int (iN dd)), some (.int (oN o))] [] (I, τ) = some (.inl (some (.int (iN (dpU U 8 k)))), (I, τ)) := by
    intro n
    induction n with
    | zero =>
      intro dd o ho hd
      cases o with
      | some j => have := (ho j rfl).2; omega
      | none =>
        rw [b_127_9]
        have hd : dd = dpU U 8 k := hd
        simp (disch := omega) only [rd_I_mk, rd_R_mk, rd_L_mk, rd_D_mk, kd_mk, wr_I_mk, cp_mk, gd_true, bd_ret, bd_thr, vl_none, vl_some, iN_add, iN_mul, iN_sub, iN_lt, iN_eq, iN_n, iN_m1, iN_pred, vp_iN, K0_le, nr_b0, nr_b1, m1_lt, lt_m1, iN_ne_m1, m1_ne_iN, not_lt_z, true_and, and_true, and_self, or_true, true_or, or_false, false_or, if_true, if_false, ↓reduceIte, eq_self, up_at, up_a, up_k, cp_c, cp_b, Nat.zero_add, Nat.add_zero, Nat.sub_zero, Nat.le_refl, Nat.add_sub_cancel, fu_at, fu_ne, iN_nz, n10_f, n01_f, ofN, qq_at_100, k110b, Nat.lt_irrefl, Nat.not_lt_zero, ne_eq, not_false_eq_true, not_true_eq_false, oN, b_127_25, hd]
    | succ n ih =>
      intro dd o ho hd
      cases o with
      | none =>
        rw [b_127_9]
        have hd : dd = dpU U 8 k := hd
        simp (disch := omega) only [rd_I_mk, rd_R_mk, rd_L_mk, rd_D_mk, kd_mk, wr_I_mk, cp_mk, gd_true, bd_ret, bd_thr, vl_none, vl_some, iN_add, iN_mul, iN_sub, iN_lt, iN_eq, iN_n, iN_m1, iN_pred, vp_iN, K0_le, nr_b0, nr_b1, m1_lt, lt_m1, iN_ne_m1, m1_ne_iN, not_lt_z, true_and, and_true, and_self, or_true, true_or, or_false, false_or, if_true, if_false, ↓reduceIte, eq_self, up_at, up_a, up_k, cp_c, cp_b, Nat.zero_add, Nat.add_zero, Nat.sub_zero, Nat.le_refl, Nat.add_sub_cancel, fu_at, fu_ne, iN_nz, n10_f, n01_f, ofN, qq_at_100, k110b, Nat.lt_irrefl, Nat.not_lt_zero, ne_eq, not_false_eq_true, not_true_eq_false, oN, b_127_25, hd]
      | some j =>
        have hj := (ho j rfl).1
        have hj2 := (ho j rfl).2
        have hd : dd + (dpU U (n + 1) j + 1) = dpU U 8 k := hd
        rw [b_127_9]
        have e : dd < un U := by omega
        simp (disch := omega) only [rd_I_mk, rd_R_mk, rd_L_mk, rd_D_mk, kd_mk, wr_I_mk, cp_mk, gd_true, bd_ret, bd_thr, vl_none, vl_some, iN_add, iN_mul, iN_sub, iN_lt, iN_eq, iN_n, iN_m1, iN_pred, vp_iN, K0_le, nr_b0, nr_b1, m1_lt, lt_m1, iN_ne_m1, m1_ne_iN, not_lt_z, true_and, and_true, and_self, or_true, true_or, or_false, false_or, if_true, if_false, ↓reduceIte, eq_self, up_at, up_a, up_k, cp_c, cp_b, Nat.zero_add, Nat.add_zero, Nat.sub_zero, Nat.le_refl, Nat.add_sub_cancel, fu_at, fu_ne, iN_nz, n10_f, n01_f, ofN, qq_at_100, k110b, Nat.lt_irrefl, Nat.not_lt_zero, ne_eq, not_false_eq_true, not_true_eq_false, oN, k0, r0, e, k6, q5, r6, hfd, b_127_23]
        refine ih (dd + 1) (pa U j) (fun i hi => ?_) ?_
        · have := (pa_lt hw hj hi).1
          exact ⟨by omega, by omega⟩
        · rw [dpU] at hd
          cases h : pa U j with
          | none => rw [h] at hd; show dd + 1 + 0 = _; omega
          | some i =>
            rw [h] at hd
            have hd : dd + ((dpU U n i + 1) + 1) = dpU U 8 k := hd
            show dd + 1 + (dpU U n i + 1) = _
            omega
  rw [c_127, b_127_0]
  simp (disch := omega) only [rd_I_mk, rd_R_mk, rd_L_mk, rd_D_mk, kd_mk, wr_I_mk, cp_mk, gd_true, bd_ret, bd_thr, vl_none, vl_some, iN_add, iN_mul, iN_sub, iN_lt, iN_eq, iN_n, iN_m1, iN_pred, vp_iN, K0_le, nr_b0, nr_b1, m1_lt, lt_m1, iN_ne_m1, m1_ne_iN, not_lt_z, true_and, and_true, and_self, or_true, true_or, or_false, false_or, if_true, if_false, ↓reduceIte, eq_self, up_at, up_a, up_k, cp_c, cp_b, Nat.zero_add, Nat.add_zero, Nat.sub_zero, Nat.le_refl, Nat.add_sub_cancel, fu_at, fu_ne, iN_nz, n10_f, n01_f, ofN, qq_at_100, k110b, Nat.lt_irrefl, Nat.not_lt_zero, ne_eq, not_false_eq_true, not_true_eq_false, k0, k6, q5, r6, hfd, b_127_8]
  refine lp 8 0 (pa U k) (fun i hi => ?_) ?_
  · have := (pa_lt hw hk hi).1
    exact ⟨by omega, by omega⟩
  · rw [← dpU_st hw 8 k (by omega) hk, dpU]
    cases pa U k with
    | none => rfl
    | some j => exact Nat.zero_add _
theorem c_withFollowers (hL : L_W τ p) (hR : R_U I p U) (hw : wU U) {k : Nat} (hk : k < un U) : CC (d + 1) 128 [.ref p, .int (iN k)] (I, τ) = some (.inl (some (.int (iN (mk (beU U k 8) (un U))))), (I, τ)) := by
  have hfd := fun k (hk : k < un U) => by
    have := c_find (d := d) hL hR hw (caC (w_ca (ug U k)))
    rw [fiX_ca hw hk] at this
    exact this
  obtain ⟨hp, k0, k2, k3, k4, k5, k6, k7, q1, q2, q3, q4, q5, q6⟩ := hL
  obtain ⟨r0, r1, r2, r3, r4, r5, r6, r7⟩ := hR
  have w1 := hw.1
  have hp8 : ∀ n, n ≤ 8 → 2 ^ n ≤ 256 := fun n hn => p2_le (k := n) (n := 8) hn
  have lp : ∀ m i (v4 : Option Value), i + m = un U → k < i → RR (d + 1) 128 8 [some (.ref p), some (.int (iN k)), some (.int (iN (mk (beU U k 8) i))), some (.int (iN i)), v4] [] (I, τ) = some (.inl (some (.int (iN (mk (beU U k 8) (un U))))), (I, τ)) := by
    intro m
    induction m with
    | zero =>
      intro i v4 hi hki
      rw [b_128_8]
      have e : ¬ i < un U := by omega
      simp (disch := omega) only [rd_I_mk, rd_R_mk, rd_L_mk, rd_D_mk, kd_mk, wr_I_mk, cp_mk, gd_true, bd_ret, bd_thr, vl_none, vl_some, iN_add, iN_mul, iN_sub, iN_lt, iN_eq, iN_n, iN_m1, iN_pred, vp_iN, K0_le, nr_b0, nr_b1, m1_lt, lt_m1, iN_ne_m1, m1_ne_iN, not_lt_z, true_and, and_true, and_self, or_true, true_or, or_false, false_or, if_true, if_false, ↓reduceIte, eq_self, up_at, up_a, up_k, cp_c, cp_b, Nat.zero_add, Nat.add_zero, Nat.sub_zero, Nat.le_refl, Nat.add_sub_cancel, fu_at, fu_ne, iN_nz, n10_f, n01_f, ofN, qq_at_100, k110b, Nat.lt_irrefl, Nat.not_lt_zero, ne_eq, not_false_eq_true, not_true_eq_false, k0, r0, e]
      rw [show i = un U by omega]
    | succ m ih =>
      intro i v4 hi hki
      rw [b_128_8]
      have e : i < un U := by omega
      have hml := mk_lt (beU U k 8) i
      have hm8 := hp8 i (by omega)
      simp (disch := omega) only [rd_I_mk, rd_R_mk, rd_L_mk, rd_D_mk, kd_mk, wr_I_mk, cp_mk, gd_true, bd_ret, bd_thr, vl_none, vl_some, iN_add, iN_mul, iN_sub, iN_lt, iN_eq, iN_n, iN_m1, iN_pred, vp_iN, K0_le, nr_b0, nr_b1, m1_lt, lt_m1, iN_ne_m1, m1_ne_iN, not_lt_z, true_and, and_true, and_self, or_true, true_or, or_false, false_or, if_true, if_false, ↓reduceIte, eq_self, up_at, up_a, up_k, cp_c, cp_b, Nat.zero_add, Nat.add_zero, Nat.sub_zero, Nat.le_refl, Nat.add_sub_cancel, fu_at, fu_ne, iN_nz, n10_f, n01_f, ofN, qq_at_100, k110b, Nat.lt_irrefl, Nat.not_lt_zero, ne_eq, not_false_eq_true, not_true_eq_false, k0, r0, e, k6, q5, r6, hfd]
      rw [b_128_18]
      have hbe : beU U k 8 i = match pa U i with | none => false | some j => beU U k 8 j := by
        rw [← beU_st hw 8 i (by omega) e]
        show ((i == k) || _) = _
        rw [(show (i == k) = false by rw [beq_eq_false_iff_ne]; omega), Bool.false_or]
      cases h : pa U i with
      | none =>
        rw [h] at hbe
        have hbe : beU U k 8 i = false := hbe
        simp (disch := omega) only [rd_I_mk, rd_R_mk, rd_L_mk, rd_D_mk, kd_mk, wr_I_mk, cp_mk, gd_true, bd_ret, bd_thr, vl_none, vl_some, iN_add, iN_mul, iN_sub, iN_lt, iN_eq, iN_n, iN_m1, iN_pred, vp_iN, K0_le, nr_b0, nr_b1, m1_lt, lt_m1, iN_ne_m1, m1_ne_iN, not_lt_z, true_and, and_true, and_self, or_true, true_or, or_false, false_or, if_true, if_false, ↓reduceIte, eq_self, up_at, up_a, up_k, cp_c, cp_b, Nat.zero_add, Nat.add_zero, Nat.sub_zero, Nat.le_refl, Nat.add_sub_cancel, fu_at, fu_ne, iN_nz, n10_f, n01_f, ofN, qq_at_100, k110b, Nat.lt_irrefl, Nat.not_lt_zero, ne_eq, not_false_eq_true, not_true_eq_false, oN, b_128_35]
        have := ih (i + 1) (some (.int m1)) (by omega) (by omega)
        rw [mk, hbe, if_neg (by decide), Nat.add_zero] at this
        exact this
      | some j =>
        rw [h] at hbe
        have hbe : beU U k 8 i = beU U k 8 j := hbe
        have hj := (pa_lt hw e h).1
        have hb := mk_bit (beU U k 8) i j hj
        rw [← hbe] at hb
        have := ih (i + 1) (some (.int (iN j))) (by omega) (by omega)
        rw [mk] at this
        by_cases hg : beU U k 8 i = true
        · rw [if_pos hg] at hb this
          simp (disch := omega) only [rd_I_mk, rd_R_mk, rd_L_mk, rd_D_mk, kd_mk, wr_I_mk, cp_mk, gd_true, bd_ret, bd_thr, vl_none, vl_some, iN_add, iN_mul, iN_sub, iN_lt, iN_eq, iN_n, iN_m1, iN_pred, vp_iN, K0_le, nr_b0, nr_b1, m1_lt, lt_m1, iN_ne_m1, m1_ne_iN, not_lt_z, true_and, and_true, and_self, or_true, true_or, or_false, false_or, if_true, if_false, ↓reduceIte, eq_self, up_at, up_a, up_k, cp_c, cp_b, Nat.zero_add, Nat.add_zero, Nat.sub_zero, Nat.le_refl, Nat.add_sub_cancel, fu_at, fu_ne, iN_nz, n10_f, n01_f, ofN, qq_at_100, k110b, Nat.lt_irrefl, Nat.not_lt_zero, ne_eq, not_false_eq_true, not_true_eq_false, oN, iN_shr, iN_and1, hb, b_128_35, iN_shl, Nat.one_mul, iN_or9]
          rw [mk_or hml]
          exact this
        · rw [if_neg hg] at hb this
          simp (disch := omega) only [rd_I_mk, rd_R_mk, rd_L_mk, rd_D_mk, kd_mk, wr_I_mk, cp_mk, gd_true, bd_ret, bd_thr, vl_none, vl_some, iN_add, iN_mul, iN_sub, iN_lt, iN_eq, iN_n, iN_m1, iN_pred, vp_iN, K0_le, nr_b0, nr_b1, m1_lt, lt_m1, iN_ne_m1, m1_ne_iN, not_lt_z, true_and, and_true, and_self, or_true, true_or, or_false, false_or, if_true, if_false, ↓reduceIte, eq_self, up_at, up_a, up_k, cp_c, cp_b, Nat.zero_add, Nat.add_zero, Nat.sub_zero, Nat.le_refl, Nat.add_sub_cancel, fu_at, fu_ne, iN_nz, n10_f, n01_f, ofN, qq_at_100, k110b, Nat.lt_irrefl, Nat.not_lt_zero, ne_eq, not_false_eq_true, not_true_eq_false, oN, iN_shr, iN_and1, hb, b_128_35]
          exact this
  rw [c_128, b_128_0]
  simp (disch := omega) only [rd_I_mk, rd_R_mk, rd_L_mk, rd_D_mk, kd_mk, wr_I_mk, cp_mk, gd_true, bd_ret, bd_thr, vl_none, vl_some, iN_add, iN_mul, iN_sub, iN_lt, iN_eq, iN_n, iN_m1, iN_pred, vp_iN, K0_le, nr_b0, nr_b1, m1_lt, lt_m1, iN_ne_m1, m1_ne_iN, not_lt_z, true_and, and_true, and_self, or_true, true_or, or_false, false_or, if_true, if_false, ↓reduceIte, eq_self, up_at, up_a, up_k, cp_c, cp_b, Nat.zero_add, Nat.add_zero, Nat.sub_zero, Nat.le_refl, Nat.add_sub_cancel, fu_at, fu_ne, iN_nz, n10_f, n01_f, ofN, qq_at_100, k110b, Nat.lt_irrefl, Nat.not_lt_zero, ne_eq, not_false_eq_true, not_true_eq_false, iN_shl, Nat.one_mul]
  have := lp (un U - (k + 1)) (k + 1) none (by omega) (by omega)
  rw [mk, mk_zero k (fun i hi => beU_lt hw 8 i (by omega) hi), beU_eq, if_pos rfl, Nat.zero_add] at this
  exact this
end WR
