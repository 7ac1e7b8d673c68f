/-! THE MODEL: the fewest blocks -/
def fM (bl : Nat → Nat) (w a : Nat) : Nat := min 999 (fw bl w a)
theorem min_k (k x : Nat) : min 999 (min 999 x + k) = min 999 (x + k) := by omega
def bsM (bl : Nat → Nat) (w a : Nat) : Nat → Nat
  | 0 => 999
  | k + 1 => min 999 (fmn (fw bl w) (w + 1) a k)
theorem bsM_s {bl : Nat → Nat} {w a k : Nat} : bsM bl w a (k + 1) = if fM bl w (a - k * (w + 1)) + k < bsM bl w a k then fM bl w (a - k * (w + 1)) + k else bsM bl w a k := by
  have e : ∀ x y, min 999 (min x y) = if min 999 y < min 999 x then min 999 y else min 999 x := fun x y => by split <;> omega
  cases k with
  | zero =>
    show min 999 (fw bl w a) = if min 999 (fw bl w (a - 0 * (w + 1))) + 0 < 999 then min 999 (fw bl w (a - 0 * (w + 1))) + 0 else 999
    rw [Nat.zero_mul, Nat.sub_zero]
    split <;> omega
  | succ k =>
    show min 999 (min (fmn (fw bl w) (w + 1) a k) (fw bl w (a - (k + 1) * (w + 1)) + (k + 1))) = if min 999 (fw bl w (a - (k + 1) * (w + 1))) + (k + 1) < min 999 (fmn (fw bl w) (w + 1) a k) then min 999 (fw bl w (a - (k + 1) * (w + 1))) + (k + 1) else min 999 (fmn (fw bl w) (w + 1) a k)
    split <;> omega
section ML
variable {d : Nat} {I : qq_I} {τ : qq_R} {m : Nat} {bl : Nat → Nat}
theorem c_fewestM (hk : tK τ m = (13, 0)) (hr : tR τ m 5 = m + 6) (h1 : tK τ (m + 6) = (100, 1281)) {w a : Nat} (hw : w ≤ 20) (ha : a ≤ 60) : CC d 241 [.ref m, .int (iN w), .int (iN a)] (I, τ) = some (.inl (some (.int (I (m + 6) (61 * w + a)))), (I, τ)) := by
  rw [c_241, b_241_0]
  simp (disch := omega) only [rd_I_mk, rd_R_mk, rd_L_mk, rd_D_mk, kd_mk, wr_I_mk, cp_mk, gd_true, bd_ret, bd_thr, vl_none, vl_some, iN_add, iN_mul, iN_sub, iN_lt, iN_eq, iN_n, iN_m1, iN_pred, vp_iN, K0_le, nr_b0, nr_b1, m1_lt, lt_m1, iN_ne_m1, m1_ne_iN, not_lt_z, true_and, and_true, and_self, or_true, true_or, or_false, false_or, if_true, if_false, ↓reduceIte, eq_self, up_at, up_a, up_k, cp_c, cp_b, Nat.zero_add, Nat.add_zero, Nat.sub_zero, Nat.le_refl, Nat.add_sub_cancel, fu_at, fu_ne, iN_nz, n10_f, n01_f, ofN, qq_at_100, k110b, Nat.lt_irrefl, Nat.not_lt_zero, ne_eq, not_false_eq_true, not_true_eq_false, hk, hr, h1]
theorem c_reckons (hL : L_N τ m) (hS : ∀ w, w < 21 → I (m + 1) (85 + w) = iN (bl w)) (hb : ∀ w, w < 21 → bl w < 1000000) : ∃ I', CC (d + 1) 242 [.ref m] (I, τ) = some (.inl none, (I', τ)) ∧ (∀ w a, w < 21 → a ≤ 60 → I' (m + 6) (61 * w + a) = iN (fM bl w a)) ∧ (∀ a, a ≠ m + 6 → I' a = I a) := by
  obtain ⟨m70, k0, r0, -, -, -, -, r5, -, -, -, g1, -, -, -, -, g6, -⟩ := hL
  have inner : ∀ n k w a (J : qq_I) (u5 : Option Value), k + n = min (bl (w + 1)) (a / (w + 1)) + 1 → w < 20 → a ≤ 60 → (∀ b, b ≠ m + 6 → J b = I b) → (∀ b, b ≤ 60 → J (m + 6) (61 * w + b) = iN (fM bl w b)) →
      ∃ K' v5, RR (d + 1) 242 22 [some (.ref m), some (.int (iN (w + 1))), some (.int (iN a)), some (.int (iN (bsM bl w a k))), some (.int (iN k)), u5] [] (J, τ) = RR (d + 1) 242 59 [some (.ref m), some (.int (iN (w + 1))), some (.int (iN a)), some (.int (iN (fM bl (w + 1) a))), some (.int (iN K')), v5] [] (J, τ) := by
    intro n
    induction n with
    | zero =>
      intro k w a J u5 hk hw ha hJ hT
      have hk : k = min (bl (w + 1)) (a / (w + 1)) + 1 := hk
      have hbw := hb (w + 1) (by omega)
      have e85 : J (m + 1) (85 + (w + 1)) = iN (bl (w + 1)) := by rw [hJ _ (by omega)]; exact hS _ (by omega)
      have hfin : bsM bl w a k = fM bl (w + 1) a := by rw [hk]; rfl
      refine ⟨k, u5, ?_⟩
      rw [b_242_22, ← hfin]
      have hkk : k < 1000 := by
        have := Nat.div_le_self a (w + 1)
        omega
      have hw0 : 0 < w + 1 := by omega
      by_cases z : bl (w + 1) < k
      · simp (disch := omega) only [rd_I_mk, rd_R_mk, rd_L_mk, rd_D_mk, kd_mk, wr_I_mk, cp_mk, gd_true, bd_ret, bd_thr, vl_none, vl_some, iN_add, iN_mul, iN_sub, iN_lt, iN_eq, iN_n, iN_m1, iN_pred, vp_iN, K0_le, nr_b0, nr_b1, m1_lt, lt_m1, iN_ne_m1, m1_ne_iN, not_lt_z, true_and, and_true, and_self, or_true, true_or, or_false, false_or, if_true, if_false, ↓reduceIte, eq_self, up_at, up_a, up_k, cp_c, cp_b, Nat.zero_add, Nat.add_zero, Nat.sub_zero, Nat.le_refl, Nat.add_sub_cancel, fu_at, fu_ne, iN_nz, n10_f, n01_f, ofN, qq_at_100, k110b, Nat.lt_irrefl, Nat.not_lt_zero, ne_eq, not_false_eq_true, not_true_eq_false, hw0, k0, r0, g1, e85, z]
      · have z2 : a < k * (w + 1) := by
          rcases Nat.lt_or_ge a (k * (w + 1)) with q | q
          · exact q
          · have := (Nat.le_div_iff_mul_le hw0).mpr q
            omega
        have z3 : k * (w + 1) < 100000 := Nat.lt_of_le_of_lt (Nat.mul_le_mul (Nat.le_of_lt hkk) (show w + 1 ≤ 20 by omega)) (by omega)
        generalize hkw : k * (w + 1) = kw at *
        have e2 : (iN a < iN k * iN (w + 1)) = True := by rw [iN_mul, hkw]; exact (iN_lt (by omega) (by omega)).trans (eq_true z2)
        have e1 : (iN (bl (w + 1)) < iN k) = False := (iN_lt (by omega) (by omega)).trans (eq_false z)
        have e0 : (iN 0 < iN (w + 1)) = True := (iN_lt (by omega) (by omega)).trans (eq_true hw0)
        have ev : vp_in (iN (85 + (w + 1))) 106 = True := vp_iN (by omega) (by omega)
        have en : (iN (85 + (w + 1))).toNatClampNeg = 85 + (w + 1) := iN_n (by omega)
        simp only [e0, if_true, kd_mk, rd_R_mk, rd_I_mk, k0, r0, g1, iN_add, ev, en, e85, e1, if_false, e2, true_and, and_self, gd_true]
    | succ n ih =>
      intro k w a J u5 hk hw ha hJ hT
      have hbw := hb (w + 1) (by omega)
      have e85 : J (m + 1) (85 + (w + 1)) = iN (bl (w + 1)) := by rw [hJ _ (by omega)]; exact hS _ (by omega)
      have hw0 : 0 < w + 1 := by omega
      have hkK : k ≤ min (bl (w + 1)) (a / (w + 1)) := by omega
      have hka := k_mul hkK
      have hk60 : k ≤ 60 := by
        have := Nat.div_le_self a (w + 1)
        omega
      obtain ⟨K', v5, q2⟩ := ih (k + 1) w a J (some (.int (iN (fM bl w (a - k * (w + 1)) + k)))) (by omega) hw ha hJ hT
      have q1 := c_fewestM (d := d) (I := J) k0 r5 g6 (w := w) (a := a - k * (w + 1)) (by omega) (by omega)
      rw [hT _ (by omega)] at q1
      have hfM : fM bl w (a - k * (w + 1)) ≤ 999 := Nat.min_le_left _ _
      have hbs : bsM bl w a k ≤ 999 := by
        cases k with
        | zero => exact Nat.le_refl _
        | succ k => exact Nat.min_le_left _ _
      rw [bsM_s] at q2
      refine ⟨K', v5, ?_⟩
      rw [b_242_22]
      generalize hkw : k * (w + 1) = kw at *
      have e2 : (iN a < iN k * iN (w + 1)) = False := by rw [iN_mul, hkw]; exact (iN_lt (by omega) (by omega)).trans (eq_false (by omega))
      have e1 : (iN (bl (w + 1)) < iN k) = False := (iN_lt (by omega) (by omega)).trans (eq_false (by omega))
      have e0 : (iN 0 < iN (w + 1)) = True := (iN_lt (by omega) (by omega)).trans (eq_true hw0)
      have ev : vp_in (iN (85 + (w + 1))) 106 = True := vp_iN (by omega) (by omega)
      have en : (iN (85 + (w + 1))).toNatClampNeg = 85 + (w + 1) := iN_n (by omega)
      have es1 : iN (w + 1) - iN 1 = iN w := iN_sub (by omega)
      have es2 : iN a - iN k * iN (w + 1) = iN (a - kw) := by rw [iN_mul, hkw]; exact iN_sub (by omega)
      have e3 : (iN (fM bl w (a - kw) + k) < iN (bsM bl w a k)) = (fM bl w (a - kw) + k < bsM bl w a k) := iN_lt (by omega) (by omega)
      have ek : iN k + iN (fM bl w (a - kw)) = iN (fM bl w (a - kw) + k) := by rw [iN_add, Nat.add_comm]
      simp only [e0, if_true, kd_mk, rd_R_mk, rd_I_mk, k0, r0, g1, iN_add, ev, en, e85, e1, if_false, e2, true_and, and_self, gd_true, es1, es2, q1, bd_ret, vl_some, b_242_48]
      rw [show k + fM bl w (a - kw) = fM bl w (a - kw) + k from Nat.add_comm _ _]
      by_cases z : fM bl w (a - kw) + k < bsM bl w a k
      · rw [if_pos z] at q2
        simp only [e3, z, if_true, b_242_56, iN_add]
        exact q2
      · rw [if_neg z] at q2
        simp only [e3, z, if_false, b_242_56, iN_add]
        exact q2
  sorry
end ML
