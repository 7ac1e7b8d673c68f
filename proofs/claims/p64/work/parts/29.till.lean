/-! THE TILL: the table of fewest blocks, paying with them -/
theorem iN_oi (a : Nat) : iN a = Int32.ofInt (a : Int) := (Int32.ofInt_eq_ofNat).symm
theorem iN_ss (a b c : Nat) : iN a - iN b - iN c = iN a - iN (b + c) := by
  rw [iN_oi a, iN_oi b, iN_oi c, iN_oi (b + c), ← Int32.ofInt_sub, ← Int32.ofInt_sub, ← Int32.ofInt_sub]
  congr 1
  omega
theorem iN_sn {a b : Nat} (ha : a < 1000000000) (hb : b < 1000000000) : (iN a - iN b < iN 0) = (a < b) := by
  rw [iN_oi a, iN_oi b, ← Int32.ofInt_sub, Int32.lt_iff_toInt_lt, Int32.toInt_ofInt_of_le (by omega) (by omega), iN_toInt (by omega)]
  exact propext ⟨fun h => by omega, fun h => by omega⟩
/-- the least of so many takes -/
def fmn (g : Nat → Nat) (wt a : Nat) : Nat → Nat
  | 0 => g a
  | k + 1 => min (fmn g wt a k) (g (a - (k + 1) * wt) + (k + 1))
/-- the fewest blocks of weights up to w that add up to a; 1000: none do -/
def fw (bl : Nat → Nat) : Nat → Nat → Nat
  | 0, a => if a = 0 then 0 else 1000
  | w + 1, a => fmn (fw bl w) (w + 1) a (min (bl (w + 1)) (a / (w + 1)))
theorem fmn_le {g : Nat → Nat} {wt a : Nat} : ∀ K k, k ≤ K → fmn g wt a K ≤ g (a - k * wt) + k := by
  intro K
  induction K with
  | zero => intro k hk; rw [show k = 0 by omega, Nat.zero_mul]; exact Nat.le_refl _
  | succ K ih =>
    intro k hk
    rw [fmn]
    by_cases e : k = K + 1
    · rw [e]; exact Nat.min_le_right _ _
    · exact Nat.le_trans (Nat.min_le_left _ _) (ih k (by omega))
theorem fmn_ex {g : Nat → Nat} {wt a : Nat} : ∀ K, ∃ k, k ≤ K ∧ fmn g wt a K = g (a - k * wt) + k := by
  intro K
  induction K with
  | zero => exact ⟨0, Nat.le_refl _, by rw [Nat.zero_mul]; rfl⟩
  | succ K ih =>
    obtain ⟨k, h1, h2⟩ := ih
    rw [fmn]
    rcases Nat.le_total (fmn g wt a K) (g (a - (K + 1) * wt) + (K + 1)) with h | h
    · exact ⟨k, by omega, by rw [Nat.min_eq_left h, h2]⟩
    · exact ⟨K + 1, Nat.le_refl _, Nat.min_eq_right h⟩
theorem fw_le {bl : Nat → Nat} : ∀ w a, fw bl w a ≤ 1000 := by
  intro w
  induction w with
  | zero => intro a; rw [fw]; split <;> omega
  | succ w ih =>
    intro a
    rw [fw]
    have h := fmn_le (g := fw bl w) (wt := w + 1) (a := a) (min (bl (w + 1)) (a / (w + 1))) 0 (Nat.zero_le _)
    have h2 := ih a
    rw [Nat.zero_mul, Nat.sub_zero, Nat.add_zero] at h
    omega
theorem k_mul {a wt k K : Nat} (h : k ≤ min K (a / wt)) : k * wt ≤ a := by
  have h1 : k ≤ a / wt := by omega
  exact Nat.le_trans (Nat.mul_le_mul_right _ h1) (Nat.div_mul_le_self _ _)
/-- each block weighs 1 at least, w at most -/
theorem fw_bd {bl : Nat → Nat} : ∀ w a, a ≤ 60 → fw bl w a = 1000 ∨ fw bl w a ≤ a ∧ a ≤ fw bl w a * w := by
  intro w
  induction w with
  | zero =>
    intro a _
    rw [fw]
    by_cases h : a = 0
    · right; rw [if_pos h, h]; exact ⟨Nat.le_refl _, Nat.le_refl _⟩
    · left; rw [if_neg h]
  | succ w ih =>
    intro a ha
    rw [fw]
    obtain ⟨k, h1, h2⟩ := fmn_ex (g := fw bl w) (wt := w + 1) (a := a) (min (bl (w + 1)) (a / (w + 1)))
    have h3 := k_mul h1
    have h5 : k ≤ k * (w + 1) := Nat.le_mul_of_pos_right _ (by omega)
    have hle := @fw_le bl (w + 1) a
    rw [fw] at hle
    rcases ih (a - k * (w + 1)) (by omega) with h | ⟨h6, h7⟩
    · left; omega
    · right
      rw [h2]
      refine ⟨by omega, ?_⟩
      rw [Nat.add_mul, Nat.mul_succ]
      have h8 : fw bl w (a - k * (w + 1)) * w ≤ fw bl w (a - k * (w + 1)) * w + fw bl w (a - k * (w + 1)) := Nat.le_add_right _ _
      omega
/-- the most blocks of a weight on a best way -/
def mo (g : Nat → Nat) (wt a v : Nat) : Nat → Nat
  | 0 => 0
  | k + 1 => if g (a - (k + 1) * wt) + (k + 1) = v then k + 1 else mo g wt a v k
theorem mo_le {g : Nat → Nat} {wt a v : Nat} : ∀ K, mo g wt a v K ≤ K := by
  intro K
  induction K with
  | zero => exact Nat.le_refl _
  | succ K ih => rw [mo]; split <;> omega
def tk (bl : Nat → Nat) (w a : Nat) : Nat := mo (fw bl w) (w + 1) a (fw bl (w + 1) a) (min (bl (w + 1)) (a / (w + 1)))
theorem tk_le {bl : Nat → Nat} {w a : Nat} : tk bl w a ≤ bl (w + 1) ∧ tk bl w a * (w + 1) ≤ a := by
  have h := @mo_le (fw bl w) (w + 1) a (fw bl (w + 1) a) (min (bl (w + 1)) (a / (w + 1)))
  exact ⟨by unfold tk; omega, k_mul h⟩
/-- the store behind a payment -/
def tka (bl : Nat → Nat) : Nat → Nat → (Nat → Nat) → Nat → Nat
  | 0, _, b => b
  | w + 1, a, b => tka bl w (a - tk bl w a * (w + 1)) (fu b (w + 1) (b (w + 1) - tk bl w a))
def L_T (τ : qq_R) (t : Nat) : Prop := 70 ≤ t ∧ tK τ t = (10, 0) ∧ tR τ t 0 = t + 1 ∧ tR τ t 1 = t + 23 ∧ tK τ (t + 1) = (110, 21) ∧ (∀ w, w < 21 → tR τ (t + 1) w = t + 2 + w) ∧ (∀ w, w < 21 → tK τ (t + 2 + w) = (100, 61)) ∧ tK τ (t + 23) = (105, 21)
theorem k110 : ((110 ≤ 110 ∧ 110 < 113) : Prop) = True := eq_true (by omega)
theorem iN_mn (a b : Nat) : (if a < b then iN a else iN b) = iN (min b a) := by
  by_cases h : a < b
  · rw [if_pos h, Nat.min_eq_right (Nat.le_of_lt h)]
  · rw [if_neg h, Nat.min_eq_left (by omega)]
section TL
variable {d : Nat} {I : qq_I} {τ : qq_R} {t s : Nat} {bl : Nat → Nat}
theorem c_fewestWith (hT : L_T τ t) (hs : tK τ s = (100, 21)) (hS : ∀ w, w < 21 → I s w = iN (bl w)) (hb : ∀ w, w < 21 → bl w < 1000000) {w a : Nat} (hw : w < 20) (ha : a ≤ 60) (hg : ∀ x, x ≤ 60 → I (t + 2 + w) x = iN (fw bl w x)) :
    CC d 112 [.ref t, .ref s, .int (iN (w + 1)), .int (iN a)] (I, τ) = some (.inl (some (.int (iN (fw bl (w + 1) a)))), (I, τ)) := by
  obtain ⟨ht, k0, k1, k2, q1, q2, q3, q4⟩ := hT
  have hbw := hb (w + 1) (by omega)
  have hfl := fun x => @fw_le bl w x
  have hmw : a / (w + 1) ≤ a := Nat.div_le_self _ _
  have hml : ∀ k, fmn (fw bl w) (w + 1) a k ≤ 1000 := fun k => by
    have h := fmn_le (g := fw bl w) (wt := w + 1) (a := a) k 0 (Nat.zero_le _)
    rw [Nat.zero_mul, Nat.sub_zero, Nat.add_zero] at h
    exact Nat.le_trans h (hfl a)
  generalize hK : min (bl (w + 1)) (a / (w + 1)) = K
  have hKa : K ≤ 60 := by omega
  have lp : ∀ m k, k + m = K → RR d 112 15 [some (.ref t), some (.ref s), some (.int (iN (w + 1))), some (.int (iN a)), some (.int (iN (fmn (fw bl w) (w + 1) a k))), some (.int (iN a - iN ((k + 1) * (w + 1)))), some (.int (iN (k + 1)))] [] (I, τ) = some (.inl (some (.int (iN (fmn (fw bl w) (w + 1) a K)))), (I, τ)) := by
    intro m
    induction m with
    | zero =>
      intro k hk
      have hkK : k = K := by omega
      subst hkK
      rw [b_112_15]
      have hk2 : (k + 1) * (w + 1) ≤ 61 * 20 := Nat.mul_le_mul (by omega) (by omega)
      by_cases e : bl (w + 1) < k + 1
      · simp (disch := omega) only [rd_I_mk, rd_R_mk, rd_L_mk, rd_D_mk, kd_mk, wr_I_mk, cp_mk, gd_true, bd_ret, bd_thr, vl_none, vl_some, iN_add, iN_mul, iN_lt, iN_eq, iN_n, iN_m1, iN_pred, vp_iN, K0_le, nr_b0, nr_b1, m1_lt, lt_m1, iN_ne_m1, m1_ne_iN, not_lt_z, true_and, and_true, and_self, or_true, true_or, or_false, false_or, if_true, if_false, ↓reduceIte, eq_self, up_at, up_a, up_k, cp_c, cp_b, Nat.zero_add, Nat.add_zero, Nat.sub_zero, Nat.le_refl, Nat.add_sub_cancel, fu_at, fu_ne, iN_nz, n10_f, n01_f, ofN, qq_at_100, k110b, Nat.lt_irrefl, Nat.not_lt_zero, ne_eq, not_false_eq_true, not_true_eq_false, hs, hS, e, b_112_41]
      · have e2 : a < (k + 1) * (w + 1) := by
          have : a / (w + 1) < k + 1 := by omega
          exact (Nat.div_lt_iff_lt_mul (by omega)).mp this
        simp (disch := omega) only [rd_I_mk, rd_R_mk, rd_L_mk, rd_D_mk, kd_mk, wr_I_mk, cp_mk, gd_true, bd_ret, bd_thr, vl_none, vl_some, iN_add, iN_mul, iN_lt, iN_eq, iN_n, iN_m1, iN_pred, vp_iN, K0_le, nr_b0, nr_b1, m1_lt, lt_m1, iN_ne_m1, m1_ne_iN, not_lt_z, true_and, and_true, and_self, or_true, true_or, or_false, false_or, if_true, if_false, ↓reduceIte, eq_self, up_at, up_a, up_k, cp_c, cp_b, Nat.zero_add, Nat.add_zero, Nat.sub_zero, Nat.le_refl, Nat.add_sub_cancel, fu_at, fu_ne, iN_nz, n10_f, n01_f, ofN, qq_at_100, k110b, Nat.lt_irrefl, Nat.not_lt_zero, ne_eq, not_false_eq_true, not_true_eq_false, hs, hS, e, iN_sn, e2, b_112_41]
    | succ m ih =>
      intro k hk
      have h1 : (k + 1) * (w + 1) ≤ a := k_mul (K := bl (w + 1)) (by omega)
      have e : ¬ bl (w + 1) < k + 1 := by omega
      have e2 : ¬ a < (k + 1) * (w + 1) := by omega
      have e3 := hg (a - (k + 1) * (w + 1)) (by omega)
      have e4 := hfl (a - (k + 1) * (w + 1))
      have e5 := hml k
      rw [b_112_15]
      simp (disch := omega) only [rd_I_mk, rd_R_mk, rd_L_mk, rd_D_mk, kd_mk, wr_I_mk, cp_mk, gd_true, bd_ret, bd_thr, vl_none, vl_some, iN_add, iN_mul, iN_lt, iN_eq, iN_n, iN_m1, iN_pred, vp_iN, K0_le, nr_b0, nr_b1, m1_lt, lt_m1, iN_ne_m1, m1_ne_iN, not_lt_z, true_and, and_true, and_self, or_true, true_or, or_false, false_or, if_true, if_false, ↓reduceIte, eq_self, up_at, up_a, up_k, cp_c, cp_b, Nat.zero_add, Nat.add_zero, Nat.sub_zero, Nat.le_refl, Nat.add_sub_cancel, fu_at, fu_ne, iN_nz, n10_f, n01_f, ofN, qq_at_100, k110b, Nat.lt_irrefl, Nat.not_lt_zero, ne_eq, not_false_eq_true, not_true_eq_false, hs, hS, e, iN_sn, e2]
      rw [iN_ss, iN_sub h1]
      have e6 : iN (w + 1) - iN 1 = iN w := iN_sub (by omega)
      simp (disch := omega) only [rd_I_mk, rd_R_mk, rd_L_mk, rd_D_mk, kd_mk, wr_I_mk, cp_mk, gd_true, bd_ret, bd_thr, vl_none, vl_some, iN_add, iN_mul, iN_lt, iN_eq, iN_n, iN_m1, iN_pred, vp_iN, K0_le, nr_b0, nr_b1, m1_lt, lt_m1, iN_ne_m1, m1_ne_iN, not_lt_z, true_and, and_true, and_self, or_true, true_or, or_false, false_or, if_true, if_false, ↓reduceIte, eq_self, up_at, up_a, up_k, cp_c, cp_b, Nat.zero_add, Nat.add_zero, Nat.sub_zero, Nat.le_refl, Nat.add_sub_cancel, fu_at, fu_ne, iN_nz, n10_f, n01_f, ofN, qq_at_100, k110b, Nat.lt_irrefl, Nat.not_lt_zero, ne_eq, not_false_eq_true, not_true_eq_false, e6, k0, k1, q1, k110, q2, q3, e3, iN_mn]
      have := ih (k + 1) (by omega)
      rw [fmn, Nat.add_mul (k + 1) 1, Nat.one_mul] at this
      exact this
  rw [c_112, b_112_0, fw, hK]
  have e6 : iN (w + 1) - iN 1 = iN w := iN_sub (by omega)
  simp (disch := omega) only [rd_I_mk, rd_R_mk, rd_L_mk, rd_D_mk, kd_mk, wr_I_mk, cp_mk, gd_true, bd_ret, bd_thr, vl_none, vl_some, iN_add, iN_mul, iN_lt, iN_eq, iN_n, iN_m1, iN_pred, vp_iN, K0_le, nr_b0, nr_b1, m1_lt, lt_m1, iN_ne_m1, m1_ne_iN, not_lt_z, true_and, and_true, and_self, or_true, true_or, or_false, false_or, if_true, if_false, ↓reduceIte, eq_self, up_at, up_a, up_k, cp_c, cp_b, Nat.zero_add, Nat.add_zero, Nat.sub_zero, Nat.le_refl, Nat.add_sub_cancel, fu_at, fu_ne, iN_nz, n10_f, n01_f, ofN, qq_at_100, k110b, Nat.lt_irrefl, Nat.not_lt_zero, ne_eq, not_false_eq_true, not_true_eq_false, e6, k0, k1, q1, k110, q2, q3, hg]
  have := lp K 0 (by omega)
  rw [Nat.zero_add, Nat.one_mul] at this
  exact this
theorem c_fillTable (hT : L_T τ t) (hs : tK τ s = (100, 21)) (hne : s < t ∨ t + 24 ≤ s) (hS : ∀ w, w < 21 → I s w = iN (bl w)) (hb : ∀ w, w < 21 → bl w < 1000000) :
    ∃ I', CC (d + 1) 111 [.ref t, .ref s] (I, τ) = some (.inl none, (I', τ)) ∧ (∀ w a, w < 21 → a ≤ 60 → I' (t + 2 + w) a = iN (fw bl w a)) ∧ Fr (t + 2) 21 I I' := by
  have hT0 := hT
  obtain ⟨ht, k0, k1, k2, q1, q2, q3, q4⟩ := hT
  have q30 := q3 0 (by omega)
  have q20 := q2 0 (by omega)
  have lp0 : ∀ m a (J : qq_I), a + m = 61 → Fr (t + 2) 21 I J → (∀ x, x < a → J (t + 2) x = iN (fw bl 0 x)) → ∃ J', RR (d + 1) 111 2 [some (.ref t), some (.ref s), some (.int (iN a)), none] [] (J, τ) = RR (d + 1) 111 20 [some (.ref t), some (.ref s), some (.int (iN 1)), none] [] (J', τ) ∧ Fr (t + 2) 21 I J' ∧ (∀ x, x < 61 → J' (t + 2) x = iN (fw bl 0 x)) := by
    intro m
    induction m with
    | zero =>
      intro a J ha g1 g2
      refine ⟨J, ?_, g1, fun x hx => g2 x (by omega)⟩
      rw [b_111_2]
      have e : 60 < a := by omega
      simp (disch := omega) only [rd_I_mk, rd_R_mk, rd_L_mk, rd_D_mk, kd_mk, wr_I_mk, cp_mk, gd_true, bd_ret, bd_thr, vl_none, vl_some, iN_add, iN_mul, iN_sub, iN_lt, iN_eq, iN_n, iN_m1, iN_pred, vp_iN, K0_le, nr_b0, nr_b1, m1_lt, lt_m1, iN_ne_m1, m1_ne_iN, not_lt_z, true_and, and_true, and_self, or_true, true_or, or_false, false_or, if_true, if_false, ↓reduceIte, eq_self, up_at, up_a, up_k, cp_c, cp_b, Nat.zero_add, Nat.add_zero, Nat.sub_zero, Nat.le_refl, Nat.add_sub_cancel, fu_at, fu_ne, iN_nz, n10_f, n01_f, ofN, qq_at_100, k110b, Nat.lt_irrefl, Nat.not_lt_zero, ne_eq, not_false_eq_true, not_true_eq_false, e]
    | succ m ih =>
      intro a J ha g1 g2
      have e : ¬ 60 < a := by omega
      have hv : fw bl 0 a = if a = 0 then 0 else 1000 := by rw [fw]
      obtain ⟨J', s1, s2, s3⟩ := ih (a + 1) (up_2 J (t + 2) a (iN (fw bl 0 a))) (by omega) (Fr_tr g1 (Fr_up (by omega))) (fun x hx => by
        by_cases ex : x = a
        · rw [ex, up_at]
        · rw [up_k ex]; exact g2 x (by omega))
      refine ⟨J', ?_, s2, s3⟩
      rw [← s1, b_111_2]
      by_cases h0 : a = 0
      · rw [if_pos h0] at hv
        simp (disch := omega) only [rd_I_mk, rd_R_mk, rd_L_mk, rd_D_mk, kd_mk, wr_I_mk, cp_mk, gd_true, bd_ret, bd_thr, vl_none, vl_some, iN_add, iN_mul, iN_sub, iN_lt, iN_eq, iN_n, iN_m1, iN_pred, vp_iN, K0_le, nr_b0, nr_b1, m1_lt, lt_m1, iN_ne_m1, m1_ne_iN, not_lt_z, true_and, and_true, and_self, or_true, true_or, or_false, false_or, if_true, if_false, ↓reduceIte, eq_self, up_at, up_a, up_k, cp_c, cp_b, Nat.zero_add, Nat.add_zero, Nat.sub_zero, Nat.le_refl, Nat.add_sub_cancel, fu_at, fu_ne, iN_nz, n10_f, n01_f, ofN, qq_at_100, k110b, Nat.lt_irrefl, Nat.not_lt_zero, ne_eq, not_false_eq_true, not_true_eq_false, e, k0, k1, q1, k110, h0, q20, q30, b_111_15, b_111_16]
        rw [show fw bl 0 0 = 0 from rfl]
      · rw [if_neg h0] at hv
        simp (disch := omega) only [rd_I_mk, rd_R_mk, rd_L_mk, rd_D_mk, kd_mk, wr_I_mk, cp_mk, gd_true, bd_ret, bd_thr, vl_none, vl_some, iN_add, iN_mul, iN_sub, iN_lt, iN_eq, iN_n, iN_m1, iN_pred, vp_iN, K0_le, nr_b0, nr_b1, m1_lt, lt_m1, iN_ne_m1, m1_ne_iN, not_lt_z, true_and, and_true, and_self, or_true, true_or, or_false, false_or, if_true, if_false, ↓reduceIte, eq_self, up_at, up_a, up_k, cp_c, cp_b, Nat.zero_add, Nat.add_zero, Nat.sub_zero, Nat.le_refl, Nat.add_sub_cancel, fu_at, fu_ne, iN_nz, n10_f, n01_f, ofN, qq_at_100, k110b, Nat.lt_irrefl, Nat.not_lt_zero, ne_eq, not_false_eq_true, not_true_eq_false, e, k0, k1, q1, k110, h0, q20, q30, b_111_15, b_111_16]
        rw [hv]
  have lp2 : ∀ m w a (J : qq_I), w < 20 → a + m = 61 → Fr (t + 2) 21 I J → (∀ v x, v ≤ w → x < 61 → J (t + 2 + v) x = iN (fw bl v x)) → (∀ x, x < a → J (t + 2 + (w + 1)) x = iN (fw bl (w + 1) x)) →
      ∃ J', RR (d + 1) 111 25 [some (.ref t), some (.ref s), some (.int (iN (w + 1))), some (.int (iN a))] [] (J, τ) = RR (d + 1) 111 20 [some (.ref t), some (.ref s), some (.int (iN (w + 2))), some (.int (iN 61))] [] (J', τ) ∧ Fr (t + 2) 21 I J' ∧ (∀ v x, v ≤ w + 1 → x < 61 → J' (t + 2 + v) x = iN (fw bl v x)) := by
    intro m
    induction m with
    | zero =>
      intro w a J hw ha g1 g2 g3
      have ha : a = 61 := ha
      subst ha
      refine ⟨J, ?_, g1, fun v x hv hx => ?_⟩
      · rw [b_111_25]
        have e : 60 < 61 := by omega
        simp (disch := omega) only [rd_I_mk, rd_R_mk, rd_L_mk, rd_D_mk, kd_mk, wr_I_mk, cp_mk, gd_true, bd_ret, bd_thr, vl_none, vl_some, iN_add, iN_mul, iN_sub, iN_lt, iN_eq, iN_n, iN_m1, iN_pred, vp_iN, K0_le, nr_b0, nr_b1, m1_lt, lt_m1, iN_ne_m1, m1_ne_iN, not_lt_z, true_and, and_true, and_self, or_true, true_or, or_false, false_or, if_true, if_false, ↓reduceIte, eq_self, up_at, up_a, up_k, cp_c, cp_b, Nat.zero_add, Nat.add_zero, Nat.sub_zero, Nat.le_refl, Nat.add_sub_cancel, fu_at, fu_ne, iN_nz, n10_f, n01_f, ofN, qq_at_100, k110b, Nat.lt_irrefl, Nat.not_lt_zero, ne_eq, not_false_eq_true, not_true_eq_false, e]
      · by_cases ev : v = w + 1
        · rw [ev]; exact g3 x hx
        · exact g2 v x (by omega) hx
    | succ m ih =>
      intro w a J hw ha g1 g2 g3
      have e : ¬ 60 < a := by omega
      have e1 := q2 (w + 1) (by omega)
      have e2 := q3 (w + 1) (by omega)
      have hfw := c_fewestWith (d := d) (I := J) hT0 hs (fun w hw => by rw [g1 s (by omega)]; exact hS w hw) hb hw (show a ≤ 60 by omega) (fun x hx => g2 w x (Nat.le_refl _) (by omega))
      obtain ⟨J', s1, s2, s3⟩ := ih w (a + 1) (up_2 J (t + 2 + (w + 1)) a (iN (fw bl (w + 1) a))) hw (by omega) (Fr_tr g1 (Fr_up (by omega))) (fun v x hv hx => by rw [up_a (by omega)]; exact g2 v x hv hx) (fun x hx => by
        by_cases ex : x = a
        · rw [ex, up_at]
        · rw [up_k ex]; exact g3 x (by omega))
      refine ⟨J', ?_, s2, s3⟩
      rw [← s1, b_111_25]
      simp (disch := omega) only [rd_I_mk, rd_R_mk, rd_L_mk, rd_D_mk, kd_mk, wr_I_mk, cp_mk, gd_true, bd_ret, bd_thr, vl_none, vl_some, iN_add, iN_mul, iN_sub, iN_lt, iN_eq, iN_n, iN_m1, iN_pred, vp_iN, K0_le, nr_b0, nr_b1, m1_lt, lt_m1, iN_ne_m1, m1_ne_iN, not_lt_z, true_and, and_true, and_self, or_true, true_or, or_false, false_or, if_true, if_false, ↓reduceIte, eq_self, up_at, up_a, up_k, cp_c, cp_b, Nat.zero_add, Nat.add_zero, Nat.sub_zero, Nat.le_refl, Nat.add_sub_cancel, fu_at, fu_ne, iN_nz, n10_f, n01_f, ofN, qq_at_100, k110b, Nat.lt_irrefl, Nat.not_lt_zero, ne_eq, not_false_eq_true, not_true_eq_false, e, k0, k1, q1, k110, e1, hfw, b_111_38, e2, b_111_39]
  have lp1 : ∀ m w (J : qq_I) (v : Option Value), w + m = 20 → Fr (t + 2) 21 I J → (∀ v x, v ≤ w → x < 61 → J (t + 2 + v) x = iN (fw bl v x)) →
      ∃ I', RR (d + 1) 111 20 [some (.ref t), some (.ref s), some (.int (iN (w + 1))), v] [] (J, τ) = some (.inl none, (I', τ)) ∧ (∀ w a, w < 21 → a ≤ 60 → I' (t + 2 + w) a = iN (fw bl w a)) ∧ Fr (t + 2) 21 I I' := by
    intro m
    induction m with
    | zero =>
      intro w J v hw g1 g2
      refine ⟨J, ?_, fun v x hv hx => g2 v x (by omega) (by omega), g1⟩
      rw [b_111_20]
      have e : 20 < w + 1 := by omega
      simp (disch := omega) only [rd_I_mk, rd_R_mk, rd_L_mk, rd_D_mk, kd_mk, wr_I_mk, cp_mk, gd_true, bd_ret, bd_thr, vl_none, vl_some, iN_add, iN_mul, iN_sub, iN_lt, iN_eq, iN_n, iN_m1, iN_pred, vp_iN, K0_le, nr_b0, nr_b1, m1_lt, lt_m1, iN_ne_m1, m1_ne_iN, not_lt_z, true_and, and_true, and_self, or_true, true_or, or_false, false_or, if_true, if_false, ↓reduceIte, eq_self, up_at, up_a, up_k, cp_c, cp_b, Nat.zero_add, Nat.add_zero, Nat.sub_zero, Nat.le_refl, Nat.add_sub_cancel, fu_at, fu_ne, iN_nz, n10_f, n01_f, ofN, qq_at_100, k110b, Nat.lt_irrefl, Nat.not_lt_zero, ne_eq, not_false_eq_true, not_true_eq_false, e]
    | succ m ih =>
      intro w J v hw g1 g2
      have e : ¬ 20 < w + 1 := by omega
      obtain ⟨J', s1, s2, s3⟩ := lp2 61 w 0 J (by omega) (by omega) g1 g2 (fun x hx => by omega)
      obtain ⟨I', u1, u2, u3⟩ := ih (w + 1) J' (some (.int (iN 61))) (by omega) s2 s3
      refine ⟨I', ?_, u2, u3⟩
      rw [b_111_20]
      simp (disch := omega) only [rd_I_mk, rd_R_mk, rd_L_mk, rd_D_mk, kd_mk, wr_I_mk, cp_mk, gd_true, bd_ret, bd_thr, vl_none, vl_some, iN_add, iN_mul, iN_sub, iN_lt, iN_eq, iN_n, iN_m1, iN_pred, vp_iN, K0_le, nr_b0, nr_b1, m1_lt, lt_m1, iN_ne_m1, m1_ne_iN, not_lt_z, true_and, and_true, and_self, or_true, true_or, or_false, false_or, if_true, if_false, ↓reduceIte, eq_self, up_at, up_a, up_k, cp_c, cp_b, Nat.zero_add, Nat.add_zero, Nat.sub_zero, Nat.le_refl, Nat.add_sub_cancel, fu_at, fu_ne, iN_nz, n10_f, n01_f, ofN, qq_at_100, k110b, Nat.lt_irrefl, Nat.not_lt_zero, ne_eq, not_false_eq_true, not_true_eq_false, e]
      rw [s1]; exact u1
  obtain ⟨J', s1, s2, s3⟩ := lp0 61 0 I (by omega) Fr_rf (fun x hx => by omega)
  obtain ⟨I', u1, u2, u3⟩ := lp1 20 0 J' none (by omega) s2 (fun v x hv hx => by rw [show v = 0 by omega]; exact s3 x hx)
  refine ⟨I', ?_, u2, u3⟩
  rw [c_111, b_111_0, s1]
  exact u1
theorem c_fewestByTable (hT : L_T τ t) (hI : ∀ w a, w < 21 → a ≤ 60 → I (t + 2 + w) a = iN (fw bl w a)) {a : Nat} (ha : a ≤ 60) : CC d 113 [.ref t, .int (iN a)] (I, τ) = some (.inl (some (.int (iN (fw bl 20 a)))), (I, τ)) := by
  obtain ⟨ht, k0, k1, k2, q1, q2, q3, q4⟩ := hT
  have e := hI 20 a (by omega) ha
  rw [c_113]
  simp (disch := omega) only [rd_I_mk, rd_R_mk, rd_L_mk, rd_D_mk, kd_mk, wr_I_mk, cp_mk, gd_true, bd_ret, bd_thr, vl_none, vl_some, iN_add, iN_mul, iN_sub, iN_lt, iN_eq, iN_n, iN_m1, iN_pred, vp_iN, K0_le, nr_b0, nr_b1, m1_lt, lt_m1, iN_ne_m1, m1_ne_iN, not_lt_z, true_and, and_true, and_self, or_true, true_or, or_false, false_or, if_true, if_false, ↓reduceIte, eq_self, up_at, up_a, up_k, cp_c, cp_b, Nat.zero_add, Nat.add_zero, Nat.sub_zero, Nat.le_refl, Nat.add_sub_cancel, fu_at, fu_ne, iN_nz, n10_f, n01_f, ofN, qq_at_100, k110b, Nat.lt_irrefl, Nat.not_lt_zero, ne_eq, not_false_eq_true, not_true_eq_false, b_113_0, k0, k1, q1, k110, q2, q3, e]
theorem c_mostOnABestWay (hT : L_T τ t) (hs : tK τ s = (100, 21)) {x : Nat} (hI : ∀ w a, w < 21 → a ≤ 60 → I (t + 2 + w) a = iN (fw bl w a)) {w a : Nat} (hS : I s (w + 1) = iN (bl (w + 1))) (hb : bl (w + 1) < 1000000) (hw : w < 20) (ha : a ≤ 60) :
    CC d 115 [.ref t, .ref s, .int (iN (w + 1)), .int (iN a)] (I, τ) = some (.inl (some (.int (iN (tk bl w a)))), (I, τ)) := by
  obtain ⟨ht, k0, k1, k2, q1, q2, q3, q4⟩ := hT
  have hmw : a / (w + 1) ≤ a := Nat.div_le_self _ _
  have e6 : iN (w + 1) - iN 1 = iN w := iN_sub (by omega)
  have hfl := fun w x => @fw_le bl w x
  have lp : ∀ k, k ≤ min (bl (w + 1)) (a / (w + 1)) → RR d 115 8 [some (.ref t), some (.ref s), some (.int (iN (w + 1))), some (.int (iN a)), some (.int (iN k))] [] (I, τ) = some (.inl (some (.int (iN (mo (fw bl w) (w + 1) a (fw bl (w + 1) a) k)))), (I, τ)) := by
    intro k
    induction k with
    | zero =>
      intro _
      rw [b_115_8]
      simp (disch := omega) only [rd_I_mk, rd_R_mk, rd_L_mk, rd_D_mk, kd_mk, wr_I_mk, cp_mk, gd_true, bd_ret, bd_thr, vl_none, vl_some, iN_add, iN_mul, iN_sub, iN_lt, iN_eq, iN_n, iN_m1, iN_pred, vp_iN, K0_le, nr_b0, nr_b1, m1_lt, lt_m1, iN_ne_m1, m1_ne_iN, not_lt_z, true_and, and_true, and_self, or_true, true_or, or_false, false_or, if_true, if_false, ↓reduceIte, eq_self, up_at, up_a, up_k, cp_c, cp_b, Nat.zero_add, Nat.add_zero, Nat.sub_zero, Nat.le_refl, Nat.add_sub_cancel, fu_at, fu_ne, iN_nz, n10_f, n01_f, ofN, qq_at_100, k110b, Nat.lt_irrefl, Nat.not_lt_zero, ne_eq, not_false_eq_true, not_true_eq_false, b_115_33, mo]
    | succ k ih =>
      intro hk
      have h1 := k_mul hk
      have e0 : 0 < k + 1 := by omega
      have e1 := hI w (a - (k + 1) * (w + 1)) (by omega) (by omega)
      have e2 := hI (w + 1) a (by omega) ha
      have e3 := hfl w (a - (k + 1) * (w + 1))
      have e4 := hfl (w + 1) a
      have e5 : iN a - iN ((k + 1) * (w + 1)) = iN (a - (k + 1) * (w + 1)) := iN_sub h1
      rw [b_115_8, mo]
      by_cases h : fw bl w (a - (k + 1) * (w + 1)) + (k + 1) = fw bl (w + 1) a
      · rw [if_pos h]
        simp (disch := omega) only [rd_I_mk, rd_R_mk, rd_L_mk, rd_D_mk, kd_mk, wr_I_mk, cp_mk, gd_true, bd_ret, bd_thr, vl_none, vl_some, iN_add, iN_mul, iN_lt, iN_eq, iN_n, iN_m1, iN_pred, vp_iN, K0_le, nr_b0, nr_b1, m1_lt, lt_m1, iN_ne_m1, m1_ne_iN, not_lt_z, true_and, and_true, and_self, or_true, true_or, or_false, false_or, if_true, if_false, ↓reduceIte, eq_self, up_at, up_a, up_k, cp_c, cp_b, Nat.zero_add, Nat.add_zero, Nat.sub_zero, Nat.le_refl, Nat.add_sub_cancel, fu_at, fu_ne, iN_nz, n10_f, n01_f, ofN, qq_at_100, k110b, Nat.lt_irrefl, Nat.not_lt_zero, ne_eq, not_false_eq_true, not_true_eq_false, e0, e6, e5, k0, k1, q1, k110, q2, q3, e1, e2, h, b_115_33]
      · rw [if_neg h]
        simp (disch := omega) only [rd_I_mk, rd_R_mk, rd_L_mk, rd_D_mk, kd_mk, wr_I_mk, cp_mk, gd_true, bd_ret, bd_thr, vl_none, vl_some, iN_add, iN_mul, iN_lt, iN_eq, iN_n, iN_m1, iN_pred, vp_iN, K0_le, nr_b0, nr_b1, m1_lt, lt_m1, iN_ne_m1, m1_ne_iN, not_lt_z, true_and, and_true, and_self, or_true, true_or, or_false, false_or, if_true, if_false, ↓reduceIte, eq_self, up_at, up_a, up_k, cp_c, cp_b, Nat.zero_add, Nat.add_zero, Nat.sub_zero, Nat.le_refl, Nat.add_sub_cancel, fu_at, fu_ne, iN_nz, n10_f, n01_f, ofN, qq_at_100, k110b, Nat.lt_irrefl, Nat.not_lt_zero, ne_eq, not_false_eq_true, not_true_eq_false, e0, e6, e5, k0, k1, q1, k110, q2, q3, e1, e2, h]
        exact ih (by omega)
  have hz : ((iN (w + 1) = 0) : Prop) = False := by
    have : (iN (w + 1) = iN 0) = (w + 1 = 0) := iN_eq (by omega) (by omega)
    rw [show (0 : Int32) = iN 0 from rfl, this]
    exact eq_false (by omega)
  rw [c_115, b_115_0]
  simp (disch := omega) only [rd_I_mk, rd_R_mk, rd_L_mk, rd_D_mk, kd_mk, wr_I_mk, cp_mk, gd_true, bd_ret, bd_thr, vl_none, vl_some, iN_add, iN_mul, iN_sub, iN_lt, iN_eq, iN_n, iN_m1, iN_pred, vp_iN, K0_le, nr_b0, nr_b1, m1_lt, lt_m1, iN_ne_m1, m1_ne_iN, not_lt_z, true_and, and_true, and_self, or_true, true_or, or_false, false_or, if_true, if_false, ↓reduceIte, eq_self, up_at, up_a, up_k, cp_c, cp_b, Nat.zero_add, Nat.add_zero, Nat.sub_zero, Nat.le_refl, Nat.add_sub_cancel, fu_at, fu_ne, iN_nz, n10_f, n01_f, ofN, qq_at_100, k110b, Nat.lt_irrefl, Nat.not_lt_zero, ne_eq, not_false_eq_true, not_true_eq_false, hs, hS, hz, iN_div, iN_mn]
  exact lp _ (Nat.le_refl _)
theorem c_takeBlocks (hT : L_T τ t) (hs : tK τ s = (100, 21)) (hs70 : 70 ≤ s) (hne : s < t ∨ t + 24 ≤ s) (hI : ∀ w a, w < 21 → a ≤ 60 → I (t + 2 + w) a = iN (fw bl w a)) (hS : ∀ w, w < 21 → I s w = iN (bl w)) (hb : ∀ w, w < 21 → bl w < 1000000) {a : Nat} (ha : a ≤ 60) :
    ∃ I', CC (d + 1) 114 [.ref t, .ref s, .int (iN a)] (I, τ) = some (.inl none, (I', τ)) ∧ (∀ w, w < 21 → I' s w = iN (tka bl 20 a bl w)) ∧ (∀ c, c ≠ s → I' c = I c) := by
  have hT0 := hT
  obtain ⟨ht, k0, k1, k2, q1, q2, q3, q4⟩ := hT
  have lp : ∀ w r (b : Nat → Nat) (J : qq_I) (u : Option Value), w ≤ 20 → r ≤ 60 → (∀ c, c ≠ s → J c = I c) → (∀ v, v < 21 → J s v = iN (b v)) → (∀ v, v ≤ w → b v = bl v) →
      ∃ I', RR (d + 1) 114 4 [some (.ref t), some (.ref s), some (.int (iN a)), some (.int (iN r)), some (.int (iN w)), u] [] (J, τ) = some (.inl none, (I', τ)) ∧ (∀ v, v < 21 → I' s v = iN (tka bl w r b v)) ∧ (∀ c, c ≠ s → I' c = I c) := by
    intro w
    induction w with
    | zero =>
      intro r b J u _ hr g1 g2 g3
      refine ⟨J, ?_, g2, g1⟩
      rw [b_114_4]
      simp (disch := omega) only [rd_I_mk, rd_R_mk, rd_L_mk, rd_D_mk, kd_mk, wr_I_mk, cp_mk, gd_true, bd_ret, bd_thr, vl_none, vl_some, iN_add, iN_mul, iN_sub, iN_lt, iN_eq, iN_n, iN_m1, iN_pred, vp_iN, K0_le, nr_b0, nr_b1, m1_lt, lt_m1, iN_ne_m1, m1_ne_iN, not_lt_z, true_and, and_true, and_self, or_true, true_or, or_false, false_or, if_true, if_false, ↓reduceIte, eq_self, up_at, up_a, up_k, cp_c, cp_b, Nat.zero_add, Nat.add_zero, Nat.sub_zero, Nat.le_refl, Nat.add_sub_cancel, fu_at, fu_ne, iN_nz, n10_f, n01_f, ofN, qq_at_100, k110b, Nat.lt_irrefl, Nat.not_lt_zero, ne_eq, not_false_eq_true, not_true_eq_false]
    | succ w ih =>
      intro r b J u hw hr g1 g2 g3
      have e0 : 0 < w + 1 := by omega
      have hJI : ∀ w a, w < 21 → a ≤ 60 → J (t + 2 + w) a = iN (fw bl w a) := fun v x hv hx => by rw [g1 _ (by omega)]; exact hI v x hv hx
      have hb1 := g3 (w + 1) (Nat.le_refl _)
      have hb2 := hb (w + 1) (by omega)
      have hmo := c_mostOnABestWay (d := d) (x := 0) (I := J) hT0 hs hJI (w := w) (a := r) (by rw [g2 (w + 1) (by omega), hb1]) hb2 (by omega) hr
      obtain ⟨t1, t2⟩ := @tk_le bl w r
      obtain ⟨I', s1, s2, s3⟩ := ih (r - tk bl w r * (w + 1)) (fu b (w + 1) (b (w + 1) - tk bl w r)) (up_2 J s (w + 1) (iN (b (w + 1) - tk bl w r))) (some (.int (iN (tk bl w r)))) (by omega) (by omega) (fun c hc => by rw [up_c hc]; exact g1 c hc) (fun v hv => by
        by_cases ev : v = w + 1
        · rw [ev, up_at, fu_at]
        · rw [up_k ev, fu_ne ev]; exact g2 v hv) (fun v hv => by rw [fu_ne (by omega)]; exact g3 v (by omega))
      refine ⟨I', ?_, s2, s3⟩
      have e5 : iN (b (w + 1)) - iN (tk bl w r) = iN (b (w + 1) - tk bl w r) := iN_sub (by omega)
      have e6 : iN r - iN (tk bl w r * (w + 1)) = iN (r - tk bl w r * (w + 1)) := iN_sub t2
      rw [b_114_4]
      simp (disch := omega) only [rd_I_mk, rd_R_mk, rd_L_mk, rd_D_mk, kd_mk, wr_I_mk, cp_mk, gd_true, bd_ret, bd_thr, vl_none, vl_some, iN_add, iN_mul, iN_lt, iN_eq, iN_n, iN_m1, iN_pred, vp_iN, K0_le, nr_b0, nr_b1, m1_lt, lt_m1, iN_ne_m1, m1_ne_iN, not_lt_z, true_and, and_true, and_self, or_true, true_or, or_false, false_or, if_true, if_false, ↓reduceIte, eq_self, up_at, up_a, up_k, cp_c, cp_b, Nat.zero_add, Nat.add_zero, Nat.sub_zero, Nat.le_refl, Nat.add_sub_cancel, fu_at, fu_ne, iN_nz, n10_f, n01_f, ofN, qq_at_100, k110b, Nat.lt_irrefl, Nat.not_lt_zero, ne_eq, not_false_eq_true, not_true_eq_false, e0, k0, hmo, b_114_11, hs, g2, e5, b_114_19, e6]
      exact s1
  rw [c_114, b_114_0]
  exact lp 20 a bl I none (Nat.le_refl _) ha (fun _ _ => rfl) hS (fun _ _ => rfl)
end TL
