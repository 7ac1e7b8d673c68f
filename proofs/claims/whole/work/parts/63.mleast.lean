/-! THE MODEL: the fewest blocks -/
def fM (bl : Nat → Nat) (w a : Nat) : Nat := min 999 (fw bl w a)
theorem min_k (k x : Nat) : min 999 (min 999 x + k) = min 999 (x + k) := by omega
def bsM (bl : Nat → Nat) (w a : Nat) : Nat → Nat
  | 0 => 999
  | k + 1 => min 999 (fmn (fw bl w) (w + 1) a k)
theorem bsM_s {bl : Nat → Nat} {w a k : Nat} : bsM bl w a (k + 1) = if fM bl w (a - k * (w + 1)) + k < bsM bl w a k then fM bl w (a - k * (w + 1)) + k else bsM bl w a k := by
  have e : ∀ x y, min 999 (min x y) = if min 999 y < min 999 x then min 999 y else min 999 x := fun x y => by split <;> omega
  cases k with
  | zero =>
    show min 999 (fw bl w a) = if min 999 (fw bl w (a - 0 * (w + 1))) + 0 < 999 then min 999 (fw bl w (a - 0 * (w + 1))) + 0 else 999
    rw [Nat.zero_mul, Nat.sub_zero]
    split <;> omega
  | succ k =>
    show min 999 (min (fmn (fw bl w) (w + 1) a k) (fw bl w (a - (k + 1) * (w + 1)) + (k + 1))) = if min 999 (fw bl w (a - (k + 1) * (w + 1))) + (k + 1) < min 999 (fmn (fw bl w) (w + 1) a k) then min 999 (fw bl w (a - (k + 1) * (w + 1))) + (k + 1) else min 999 (fmn (fw bl w) (w + 1) a k)
    split <;> omega
section ML
variable {d : Nat} {I : qq_I} {τ : qq_R} {m : Nat} {bl bl' : Nat → Nat}
theorem c_fewestM (hk : tK τ m = (13, 0)) (hr : tR τ m 5 = m + 6) (h1 : tK τ (m + 6) = (100, 1281)) {w a : Nat} (hw : w ≤ 20) (ha : a ≤ 60) : CC d 241 [.ref m, .int (iN w), .int (iN a)] (I, τ) = some (.inl (some (.int (I (m + 6) (61 * w + a)))), (I, τ)) := by
  rw [c_241, b_241_0]
  simp (disch := omega) only [rd_I_mk, rd_R_mk, rd_L_mk, rd_D_mk, kd_mk, wr_I_mk, cp_mk, gd_true, bd_ret, bd_thr, vl_none, vl_some, iN_add, iN_mul, iN_sub, iN_lt, iN_eq, iN_n, iN_m1, iN_pred, vp_iN, K0_le, nr_b0, nr_b1, m1_lt, lt_m1, iN_ne_m1, m1_ne_iN, not_lt_z, true_and, and_true, and_self, or_true, true_or, or_false, false_or, if_true, if_false, ↓reduceIte, eq_self, up_at, up_a, up_k, cp_c, cp_b, Nat.zero_add, Nat.add_zero, Nat.sub_zero, Nat.le_refl, Nat.add_sub_cancel, fu_at, fu_ne, iN_nz, n10_f, n01_f, ofN, qq_at_100, k110b, Nat.lt_irrefl, Nat.not_lt_zero, ne_eq, not_false_eq_true, not_true_eq_false, hk, hr, h1]
theorem c_reckons (hL : L_N τ m) (hS : ∀ w, w < 21 → I (m + 1) (85 + w) = iN (bl w)) (hb : ∀ w, w < 21 → bl w < 1000000) : ∃ I', CC (d + 1) 242 [.ref m] (I, τ) = some (.inl none, (I', τ)) ∧ (∀ w a, w < 21 → a ≤ 60 → I' (m + 6) (61 * w + a) = iN (fM bl w a)) ∧ (∀ a, a ≠ m + 6 → I' a = I a) := by
  obtain ⟨m70, k0, r0, -, -, -, -, r5, -, -, -, g1, -, -, -, -, g6, -⟩ := hL
  have inner : ∀ n k w a (J : qq_I) (u5 : Option Value), k + n = min (bl (w + 1)) (a / (w + 1)) + 1 → w < 20 → a ≤ 60 → (∀ b, b ≠ m + 6 → J b = I b) → (∀ b, b ≤ 60 → J (m + 6) (61 * w + b) = iN (fM bl w b)) →
      ∃ K' v5, RR (d + 1) 242 22 [some (.ref m), some (.int (iN (w + 1))), some (.int (iN a)), some (.int (iN (bsM bl w a k))), some (.int (iN k)), u5] [] (J, τ) = RR (d + 1) 242 59 [some (.ref m), some (.int (iN (w + 1))), some (.int (iN a)), some (.int (iN (fM bl (w + 1) a))), some (.int (iN K')), v5] [] (J, τ) := by
    intro n
    induction n with
    | zero =>
      intro k w a J u5 hk hw ha hJ hT
      have hk : k = min (bl (w + 1)) (a / (w + 1)) + 1 := hk
      have hbw := hb (w + 1) (by omega)
      have e85 : J (m + 1) (85 + (w + 1)) = iN (bl (w + 1)) := by rw [hJ _ (by omega)]; exact hS _ (by omega)
      have hfin : bsM bl w a k = fM bl (w + 1) a := by rw [hk]; rfl
      refine ⟨k, u5, ?_⟩
      rw [b_242_22, ← hfin]
      have hkk : k < 1000 := by
        have := Nat.div_le_self a (w + 1)
        omega
      have hw0 : 0 < w + 1 := by omega
      by_cases z : bl (w + 1) < k
      · simp (disch := omega) only [rd_I_mk, rd_R_mk, rd_L_mk, rd_D_mk, kd_mk, wr_I_mk, cp_mk, gd_true, bd_ret, bd_thr, vl_none, vl_some, iN_add, iN_mul, iN_sub, iN_lt, iN_eq, iN_n, iN_m1, iN_pred, vp_iN, K0_le, nr_b0, nr_b1, m1_lt, lt_m1, iN_ne_m1, m1_ne_iN, not_lt_z, true_and, and_true, and_self, or_true, true_or, or_false, false_or, if_true, if_false, ↓reduceIte, eq_self, up_at, up_a, up_k, cp_c, cp_b, Nat.zero_add, Nat.add_zero, Nat.sub_zero, Nat.le_refl, Nat.add_sub_cancel, fu_at, fu_ne, iN_nz, n10_f, n01_f, ofN, qq_at_100, k110b, Nat.lt_irrefl, Nat.not_lt_zero, ne_eq, not_false_eq_true, not_true_eq_false, hw0, k0, r0, g1, e85, z]
      · have z2 : a < k * (w + 1) := by
          rcases Nat.lt_or_ge a (k * (w + 1)) with q | q
          · exact q
          · have := (Nat.le_div_iff_mul_le hw0).mpr q
            omega
        have z3 : k * (w + 1) < 100000 := Nat.lt_of_le_of_lt (Nat.mul_le_mul (Nat.le_of_lt hkk) (show w + 1 ≤ 20 by omega)) (by omega)
        generalize hkw : k * (w + 1) = kw at *
        have e2 : (iN a < iN k * iN (w + 1)) = True := by rw [iN_mul, hkw]; exact (iN_lt (by omega) (by omega)).trans (eq_true z2)
        have e1 : (iN (bl (w + 1)) < iN k) = False := (iN_lt (by omega) (by omega)).trans (eq_false z)
        have e0 : (iN 0 < iN (w + 1)) = True := (iN_lt (by omega) (by omega)).trans (eq_true hw0)
        have ev : vp_in (iN (85 + (w + 1))) 106 = True := vp_iN (by omega) (by omega)
        have en : (iN (85 + (w + 1))).toNatClampNeg = 85 + (w + 1) := iN_n (by omega)
        simp only [e0, if_true, kd_mk, rd_R_mk, rd_I_mk, k0, r0, g1, iN_add, ev, en, e85, e1, if_false, e2, true_and, and_self, gd_true]
    | succ n ih =>
      intro k w a J u5 hk hw ha hJ hT
      have hbw := hb (w + 1) (by omega)
      have e85 : J (m + 1) (85 + (w + 1)) = iN (bl (w + 1)) := by rw [hJ _ (by omega)]; exact hS _ (by omega)
      have hw0 : 0 < w + 1 := by omega
      have hkK : k ≤ min (bl (w + 1)) (a / (w + 1)) := by omega
      have hka := k_mul hkK
      have hk60 : k ≤ 60 := by
        have := Nat.div_le_self a (w + 1)
        omega
      obtain ⟨K', v5, q2⟩ := ih (k + 1) w a J (some (.int (iN (fM bl w (a - k * (w + 1)) + k)))) (by omega) hw ha hJ hT
      have q1 := c_fewestM (d := d) (I := J) k0 r5 g6 (w := w) (a := a - k * (w + 1)) (by omega) (by omega)
      rw [hT _ (by omega)] at q1
      have hfM : fM bl w (a - k * (w + 1)) ≤ 999 := Nat.min_le_left _ _
      have hbs : bsM bl w a k ≤ 999 := by
        cases k with
        | zero => exact Nat.le_refl _
        | succ k => exact Nat.min_le_left _ _
      rw [bsM_s] at q2
      refine ⟨K', v5, ?_⟩
      rw [b_242_22]
      generalize hkw : k * (w + 1) = kw at *
      have e2 : (iN a < iN k * iN (w + 1)) = False := by rw [iN_mul, hkw]; exact (iN_lt (by omega) (by omega)).trans (eq_false (by omega))
      have e1 : (iN (bl (w + 1)) < iN k) = False := (iN_lt (by omega) (by omega)).trans (eq_false (by omega))
      have e0 : (iN 0 < iN (w + 1)) = True := (iN_lt (by omega) (by omega)).trans (eq_true hw0)
      have ev : vp_in (iN (85 + (w + 1))) 106 = True := vp_iN (by omega) (by omega)
      have en : (iN (85 + (w + 1))).toNatClampNeg = 85 + (w + 1) := iN_n (by omega)
      have es1 : iN (w + 1) - iN 1 = iN w := iN_sub (by omega)
      have es2 : iN a - iN k * iN (w + 1) = iN (a - kw) := by rw [iN_mul, hkw]; exact iN_sub (by omega)
      have e3 : (iN (fM bl w (a - kw) + k) < iN (bsM bl w a k)) = (fM bl w (a - kw) + k < bsM bl w a k) := iN_lt (by omega) (by omega)
      have ek : iN k + iN (fM bl w (a - kw)) = iN (fM bl w (a - kw) + k) := by rw [iN_add, Nat.add_comm]
      simp only [e0, if_true, kd_mk, rd_R_mk, rd_I_mk, k0, r0, g1, iN_add, ev, en, e85, e1, if_false, e2, true_and, and_self, gd_true, es1, es2, q1, bd_ret, vl_some, b_242_48]
      rw [show k + fM bl w (a - kw) = fM bl w (a - kw) + k from Nat.add_comm _ _]
      by_cases z : fM bl w (a - kw) + k < bsM bl w a k
      · rw [if_pos z] at q2
        simp only [e3, z, if_true, b_242_56, iN_add]
        exact q2
      · rw [if_neg z] at q2
        simp only [e3, z, if_false, b_242_56, iN_add]
        exact q2
  have write : ∀ w a k (J : qq_I) (v : Int32) (u5 : Option Value), w ≤ 20 → a ≤ 60 → RR (d + 1) 242 59 [some (.ref m), some (.int (iN w)), some (.int (iN a)), some (.int v), some (.int (iN k)), u5] [] (J, τ) = RR (d + 1) 242 7 [some (.ref m), some (.int (iN w)), some (.int (iN (a + 1))), some (.int v), some (.int (iN k)), u5] [] (up_2 J (m + 6) (61 * w + a) v, τ) := fun w a k J v u5 hw ha => by
    rw [b_242_59]
    simp (disch := omega) only [rd_I_mk, rd_R_mk, rd_L_mk, rd_D_mk, kd_mk, wr_I_mk, cp_mk, gd_true, bd_ret, bd_thr, vl_none, vl_some, iN_add, iN_mul, iN_sub, iN_lt, iN_eq, iN_n, iN_m1, iN_pred, vp_iN, K0_le, nr_b0, nr_b1, m1_lt, lt_m1, iN_ne_m1, m1_ne_iN, not_lt_z, true_and, and_true, and_self, or_true, true_or, or_false, false_or, if_true, if_false, ↓reduceIte, eq_self, up_at, up_a, up_k, cp_c, cp_b, Nat.zero_add, Nat.add_zero, Nat.sub_zero, Nat.le_refl, Nat.add_sub_cancel, fu_at, fu_ne, iN_nz, n10_f, n01_f, ofN, qq_at_100, k110b, Nat.lt_irrefl, Nat.not_lt_zero, ne_eq, not_false_eq_true, not_true_eq_false, k0, r5, g6, b_242_68]
  have middle : ∀ n a w (J : qq_I) (u3 u4 u5 : Option Value), a + n = 61 → w ≤ 20 → (∀ b, b ≠ m + 6 → J b = I b) → (∀ w' b, w' < w → b ≤ 60 → J (m + 6) (61 * w' + b) = iN (fM bl w' b)) → (∀ b, b < a → J (m + 6) (61 * w + b) = iN (fM bl w b)) →
      ∃ J' v3 v4 v5, RR (d + 1) 242 7 [some (.ref m), some (.int (iN w)), some (.int (iN a)), u3, u4, u5] [] (J, τ) = RR (d + 1) 242 2 [some (.ref m), some (.int (iN (w + 1))), some (.int (iN 61)), v3, v4, v5] [] (J', τ) ∧ (∀ b, b ≠ m + 6 → J' b = I b) ∧ (∀ w' b, w' < w + 1 → b ≤ 60 → J' (m + 6) (61 * w' + b) = iN (fM bl w' b)) := by
    intro n
    induction n with
    | zero =>
      intro a w J u3 u4 u5 ha hw hJ hT hT2
      have ha : a = 61 := ha
      subst ha
      have e : 60 < 61 := by omega
      refine ⟨J, u3, u4, u5, ?_, hJ, fun w' b h1 h2 => ?_⟩
      · rw [b_242_7]
        simp (disch := omega) only [rd_I_mk, rd_R_mk, rd_L_mk, rd_D_mk, kd_mk, wr_I_mk, cp_mk, gd_true, bd_ret, bd_thr, vl_none, vl_some, iN_add, iN_mul, iN_sub, iN_lt, iN_eq, iN_n, iN_m1, iN_pred, vp_iN, K0_le, nr_b0, nr_b1, m1_lt, lt_m1, iN_ne_m1, m1_ne_iN, not_lt_z, true_and, and_true, and_self, or_true, true_or, or_false, false_or, if_true, if_false, ↓reduceIte, eq_self, up_at, up_a, up_k, cp_c, cp_b, Nat.zero_add, Nat.add_zero, Nat.sub_zero, Nat.le_refl, Nat.add_sub_cancel, fu_at, fu_ne, iN_nz, n10_f, n01_f, ofN, qq_at_100, k110b, Nat.lt_irrefl, Nat.not_lt_zero, ne_eq, not_false_eq_true, not_true_eq_false, e]
      · by_cases y : w' < w
        · exact hT w' b y h2
        · have y2 : w' = w := by omega
          rw [y2]; exact hT2 b (by omega)
    | succ n ih =>
      intro a w J u3 u4 u5 ha hw hJ hT hT2
      have e : ¬ 60 < a := by omega
      have key : ∃ k v5, RR (d + 1) 242 7 [some (.ref m), some (.int (iN w)), some (.int (iN a)), u3, u4, u5] [] (J, τ) = RR (d + 1) 242 59 [some (.ref m), some (.int (iN w)), some (.int (iN a)), some (.int (iN (fM bl w a))), some (.int (iN k)), v5] [] (J, τ) := by
        cases w with
        | zero =>
          by_cases y : a = 0
          · subst y
            refine ⟨0, u5, ?_⟩
            rw [b_242_7]
            simp (disch := omega) only [rd_I_mk, rd_R_mk, rd_L_mk, rd_D_mk, kd_mk, wr_I_mk, cp_mk, gd_true, bd_ret, bd_thr, vl_none, vl_some, iN_add, iN_mul, iN_sub, iN_lt, iN_eq, iN_n, iN_m1, iN_pred, vp_iN, K0_le, nr_b0, nr_b1, m1_lt, lt_m1, iN_ne_m1, m1_ne_iN, not_lt_z, true_and, and_true, and_self, or_true, true_or, or_false, false_or, if_true, if_false, ↓reduceIte, eq_self, up_at, up_a, up_k, cp_c, cp_b, Nat.zero_add, Nat.add_zero, Nat.sub_zero, Nat.le_refl, Nat.add_sub_cancel, fu_at, fu_ne, iN_nz, n10_f, n01_f, ofN, qq_at_100, k110b, Nat.lt_irrefl, Nat.not_lt_zero, ne_eq, not_false_eq_true, not_true_eq_false, b_242_19, b_242_22]
            rfl
          · have hf : fM bl 0 a = 999 := by
              unfold fM
              rw [fw, if_neg y]
              rfl
            rw [hf]
            refine ⟨0, u5, ?_⟩
            rw [b_242_7]
            simp (disch := omega) only [rd_I_mk, rd_R_mk, rd_L_mk, rd_D_mk, kd_mk, wr_I_mk, cp_mk, gd_true, bd_ret, bd_thr, vl_none, vl_some, iN_add, iN_mul, iN_sub, iN_lt, iN_eq, iN_n, iN_m1, iN_pred, vp_iN, K0_le, nr_b0, nr_b1, m1_lt, lt_m1, iN_ne_m1, m1_ne_iN, not_lt_z, true_and, and_true, and_self, or_true, true_or, or_false, false_or, if_true, if_false, ↓reduceIte, eq_self, up_at, up_a, up_k, cp_c, cp_b, Nat.zero_add, Nat.add_zero, Nat.sub_zero, Nat.le_refl, Nat.add_sub_cancel, fu_at, fu_ne, iN_nz, n10_f, n01_f, ofN, qq_at_100, k110b, Nat.lt_irrefl, Nat.not_lt_zero, ne_eq, not_false_eq_true, not_true_eq_false, e, y, b_242_19, b_242_22]
        | succ w =>
          obtain ⟨K', v5, q⟩ := inner (min (bl (w + 1)) (a / (w + 1)) + 1) 0 w a J u5 (Nat.zero_add _) (by omega) (by omega) hJ (fun b hb => hT w b (Nat.lt_succ_self _) hb)
          refine ⟨K', v5, ?_⟩
          rw [← q, b_242_7]
          have hw0 : ¬ w + 1 = 0 := by omega
          simp (disch := omega) only [rd_I_mk, rd_R_mk, rd_L_mk, rd_D_mk, kd_mk, wr_I_mk, cp_mk, gd_true, bd_ret, bd_thr, vl_none, vl_some, iN_add, iN_mul, iN_sub, iN_lt, iN_eq, iN_n, iN_m1, iN_pred, vp_iN, K0_le, nr_b0, nr_b1, m1_lt, lt_m1, iN_ne_m1, m1_ne_iN, not_lt_z, true_and, and_true, and_self, or_true, true_or, or_false, false_or, if_true, if_false, ↓reduceIte, eq_self, up_at, up_a, up_k, cp_c, cp_b, Nat.zero_add, Nat.add_zero, Nat.sub_zero, Nat.le_refl, Nat.add_sub_cancel, fu_at, fu_ne, iN_nz, n10_f, n01_f, ofN, qq_at_100, k110b, Nat.lt_irrefl, Nat.not_lt_zero, ne_eq, not_false_eq_true, not_true_eq_false, e, hw0, b_242_19]
          rfl
      obtain ⟨k, v5, q⟩ := key
      obtain ⟨J', v3, v4, v5', t1, t2⟩ := ih (a + 1) w (up_2 J (m + 6) (61 * w + a) (iN (fM bl w a))) (some (.int (iN (fM bl w a)))) (some (.int (iN k))) v5 (by omega) hw (fun b hb => by rw [up_c hb]; exact hJ b hb) (fun w' b h1 h2 => by rw [up_k (by omega)]; exact hT w' b h1 h2) (fun b hb => by
        by_cases y : b = a
        · rw [y, up_at]
        · rw [up_k (by omega)]; exact hT2 b (by omega))
      exact ⟨J', v3, v4, v5', q.trans ((write w a k J _ v5 hw (by omega)).trans t1), t2⟩
  have outer : ∀ n w (J : qq_I) (u2 u3 u4 u5 : Option Value), w + n = 21 → (∀ b, b ≠ m + 6 → J b = I b) → (∀ w' b, w' < w → b ≤ 60 → J (m + 6) (61 * w' + b) = iN (fM bl w' b)) →
      ∃ J', RR (d + 1) 242 2 [some (.ref m), some (.int (iN w)), u2, u3, u4, u5] [] (J, τ) = some (.inl none, (J', τ)) ∧ (∀ w' b, w' < 21 → b ≤ 60 → J' (m + 6) (61 * w' + b) = iN (fM bl w' b)) ∧ (∀ b, b ≠ m + 6 → J' b = I b) := by
    intro n
    induction n with
    | zero =>
      intro w J u2 u3 u4 u5 hw hJ hT
      have hw : w = 21 := hw
      subst hw
      have e : 20 < 21 := by omega
      refine ⟨J, ?_, hT, hJ⟩
      rw [b_242_2]
      simp (disch := omega) only [rd_I_mk, rd_R_mk, rd_L_mk, rd_D_mk, kd_mk, wr_I_mk, cp_mk, gd_true, bd_ret, bd_thr, vl_none, vl_some, iN_add, iN_mul, iN_sub, iN_lt, iN_eq, iN_n, iN_m1, iN_pred, vp_iN, K0_le, nr_b0, nr_b1, m1_lt, lt_m1, iN_ne_m1, m1_ne_iN, not_lt_z, true_and, and_true, and_self, or_true, true_or, or_false, false_or, if_true, if_false, ↓reduceIte, eq_self, up_at, up_a, up_k, cp_c, cp_b, Nat.zero_add, Nat.add_zero, Nat.sub_zero, Nat.le_refl, Nat.add_sub_cancel, fu_at, fu_ne, iN_nz, n10_f, n01_f, ofN, qq_at_100, k110b, Nat.lt_irrefl, Nat.not_lt_zero, ne_eq, not_false_eq_true, not_true_eq_false, e]
    | succ n ih =>
      intro w J u2 u3 u4 u5 hw hJ hT
      have e : ¬ 20 < w := by omega
      obtain ⟨J1, v3, v4, v5, q1, q2, q3⟩ := middle 61 0 w J u3 u4 u5 rfl (by omega) hJ hT (fun b hb => absurd hb (Nat.not_lt_zero _))
      obtain ⟨J', t1, t2⟩ := ih (w + 1) J1 (some (.int (iN 61))) v3 v4 v5 (by omega) q2 q3
      refine ⟨J', ?_, t2⟩
      rw [b_242_2]
      simp (disch := omega) only [rd_I_mk, rd_R_mk, rd_L_mk, rd_D_mk, kd_mk, wr_I_mk, cp_mk, gd_true, bd_ret, bd_thr, vl_none, vl_some, iN_add, iN_mul, iN_sub, iN_lt, iN_eq, iN_n, iN_m1, iN_pred, vp_iN, K0_le, nr_b0, nr_b1, m1_lt, lt_m1, iN_ne_m1, m1_ne_iN, not_lt_z, true_and, and_true, and_self, or_true, true_or, or_false, false_or, if_true, if_false, ↓reduceIte, eq_self, up_at, up_a, up_k, cp_c, cp_b, Nat.zero_add, Nat.add_zero, Nat.sub_zero, Nat.le_refl, Nat.add_sub_cancel, fu_at, fu_ne, iN_nz, n10_f, n01_f, ofN, qq_at_100, k110b, Nat.lt_irrefl, Nat.not_lt_zero, ne_eq, not_false_eq_true, not_true_eq_false, e]
      exact q1.trans t1
  rw [c_242, b_242_0]
  exact outer 21 0 I none none none none rfl (fun _ _ => rfl) (fun w' b h1 _ => absurd h1 (Nat.not_lt_zero _))
theorem fM_eq {w a k : Nat} (hne : fw bl (w + 1) a ≠ 1000) (ha : a ≤ 60) (hk : k ≤ 60) : (k + fM bl w (a - k * (w + 1)) = fM bl (w + 1) a) = (fw bl w (a - k * (w + 1)) + k = fw bl (w + 1) a) := by
  have h1 := (@fw_bd bl (w + 1) a ha).resolve_left hne
  have h2 := @fw_le bl w (a - k * (w + 1))
  have h3 := @fw_bd bl w (a - k * (w + 1)) (by omega)
  unfold fM
  refine propext ⟨fun h => ?_, fun h => ?_⟩
  · rcases h3 with h3 | h3 <;> omega
  · omega
/-- as many as the fewest allow -/
theorem c_taken (hL : L_N τ m) (hS : ∀ w, w < 21 → I (m + 1) (85 + w) = iN (bl' w)) {w a : Nat} (hw : w < 20) (ha : a ≤ 60) (hbw : bl' (w + 1) = bl (w + 1)) (hb : bl (w + 1) < 1000000) (hT : ∀ w a, w < 21 → a ≤ 60 → I (m + 6) (61 * w + a) = iN (fM bl w a)) (hne : fw bl (w + 1) a ≠ 1000) :
    CC (d + 1) 243 [.ref m, .int (iN (w + 1)), .int (iN a)] (I, τ) = some (.inl (some (.int (iN (tk bl w a)))), (I, τ)) := by
  obtain ⟨m70, k0, r0, -, -, -, -, r5, -, -, -, g1, -, -, -, -, g6, -⟩ := hL
  have e85 : I (m + 1) (85 + (w + 1)) = iN (bl (w + 1)) := by rw [hS _ (by omega), hbw]
  have hw0 : 0 < w + 1 := by omega
  have ev : vp_in (iN (85 + (w + 1))) 106 = True := vp_iN (by omega) (by omega)
  have en : (iN (85 + (w + 1))).toNatClampNeg = 85 + (w + 1) := iN_n (by omega)
  have lp : ∀ n k r, k + n = min (bl (w + 1)) (a / (w + 1)) + 1 → r = (match k with
      | 0 => 0
      | j + 1 => mo (fw bl w) (w + 1) a (fw bl (w + 1) a) j) → RR (d + 1) 243 4 [some (.ref m), some (.int (iN (w + 1))), some (.int (iN a)), some (.int (iN r)), some (.int (iN k))] [] (I, τ) = some (.inl (some (.int (iN (tk bl w a)))), (I, τ)) := by
    intro n
    induction n with
    | zero =>
      intro k r hk hr
      have hk : k = min (bl (w + 1)) (a / (w + 1)) + 1 := hk
      have hkk : k < 1000 := by
        have := Nat.div_le_self a (w + 1)
        omega
      have hrt : r = tk bl w a := by rw [hr, hk]; rfl
      rw [b_243_4, hrt]
      by_cases z : bl (w + 1) < k
      · simp (disch := omega) only [rd_I_mk, rd_R_mk, rd_L_mk, rd_D_mk, kd_mk, wr_I_mk, cp_mk, gd_true, bd_ret, bd_thr, vl_none, vl_some, iN_add, iN_mul, iN_sub, iN_lt, iN_eq, iN_n, iN_m1, iN_pred, vp_iN, K0_le, nr_b0, nr_b1, m1_lt, lt_m1, iN_ne_m1, m1_ne_iN, not_lt_z, true_and, and_true, and_self, or_true, true_or, or_false, false_or, if_true, if_false, ↓reduceIte, eq_self, up_at, up_a, up_k, cp_c, cp_b, Nat.zero_add, Nat.add_zero, Nat.sub_zero, Nat.le_refl, Nat.add_sub_cancel, fu_at, fu_ne, iN_nz, n10_f, n01_f, ofN, qq_at_100, k110b, Nat.lt_irrefl, Nat.not_lt_zero, ne_eq, not_false_eq_true, not_true_eq_false, k0, r0, g1, e85, z, b_243_40]
      · have z2 : a < k * (w + 1) := by
          rcases Nat.lt_or_ge a (k * (w + 1)) with q | q
          · exact q
          · have := (Nat.le_div_iff_mul_le hw0).mpr q
            omega
        have z3 : k * (w + 1) < 100000 := Nat.lt_of_le_of_lt (Nat.mul_le_mul (Nat.le_of_lt hkk) (show w + 1 ≤ 20 by omega)) (by omega)
        generalize hkw : k * (w + 1) = kw at *
        have e2 : (iN a < iN k * iN (w + 1)) = True := by rw [iN_mul, hkw]; exact (iN_lt (by omega) (by omega)).trans (eq_true z2)
        have e1 : (iN (bl (w + 1)) < iN k) = False := (iN_lt (by omega) (by omega)).trans (eq_false z)
        simp only [kd_mk, rd_R_mk, rd_I_mk, k0, r0, g1, iN_add, ev, en, e85, e1, if_false, e2, if_true, true_and, and_self, gd_true, b_243_40]
    | succ n ih =>
      intro k r hk hr
      have hkK : k ≤ min (bl (w + 1)) (a / (w + 1)) := by omega
      have hka := k_mul hkK
      have hk60 : k ≤ 60 := by
        have := Nat.div_le_self a (w + 1)
        omega
      have q1 := c_fewestM (d := d) (I := I) k0 r5 g6 (w := w) (a := a - k * (w + 1)) (by omega) (by omega)
      have q2 := c_fewestM (d := d) (I := I) k0 r5 g6 (w := w + 1) (a := a) (by omega) (by omega)
      rw [hT _ _ (by omega) (by omega)] at q1 q2
      have hf1 : fM bl w (a - k * (w + 1)) ≤ 999 := Nat.min_le_left _ _
      have hf2 : fM bl (w + 1) a ≤ 999 := Nat.min_le_left _ _
      have hq := fM_eq (bl := bl) (k := k) hne ha hk60
      have hr2 : (if k + fM bl w (a - k * (w + 1)) = fM bl (w + 1) a then k else r) = mo (fw bl w) (w + 1) a (fw bl (w + 1) a) k := by
        by_cases y : fw bl w (a - k * (w + 1)) + k = fw bl (w + 1) a
        · rw [if_pos (hq.mpr y)]
          cases k with
          | zero => rfl
          | succ k => rw [mo, if_pos y]
        · rw [if_neg (fun z => y (hq.mp z)), hr]
          cases k with
          | zero => rfl
          | succ k => rw [mo, if_neg y]
      have hih := ih (k + 1) _ (by omega) hr2
      rw [b_243_4]
      generalize hkw : k * (w + 1) = kw at *
      have e2 : (iN a < iN k * iN (w + 1)) = False := by rw [iN_mul, hkw]; exact (iN_lt (by omega) (by omega)).trans (eq_false (by omega))
      have e1 : (iN (bl (w + 1)) < iN k) = False := (iN_lt (by omega) (by omega)).trans (eq_false (by omega))
      have es1 : iN (w + 1) - iN 1 = iN w := iN_sub (by omega)
      have es2 : iN a - iN k * iN (w + 1) = iN (a - kw) := by rw [iN_mul, hkw]; exact iN_sub (by omega)
      have e3 : (iN (k + fM bl w (a - kw)) = iN (fM bl (w + 1) a)) = (k + fM bl w (a - kw) = fM bl (w + 1) a) := iN_eq (by omega) (by omega)
      simp only [kd_mk, rd_R_mk, rd_I_mk, k0, r0, g1, iN_add, ev, en, e85, e1, if_false, e2, true_and, and_self, gd_true, es1, es2, q1, bd_ret, vl_some, b_243_28, q2, b_243_33, e3]
      by_cases y : k + fM bl w (a - kw) = fM bl (w + 1) a
      · rw [if_pos y] at hih
        simp only [y, if_true, b_243_37, iN_add]
        exact hih
      · rw [if_neg y] at hih
        simp only [y, if_false, b_243_37, iN_add]
        exact hih
  rw [c_243, b_243_0]
  exact lp _ 0 0 (Nat.zero_add _) rfl
end ML
