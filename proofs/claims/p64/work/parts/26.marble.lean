/-! MARBLE, LEAPS -/
def m_bl (M : sM) : Nat → Nat := M.1
def m_tr (M : sM) : Int32 := M.2.1
def m_ad (M : sM) : Int32 := M.2.2
/-- the weight of blocks -/
def sA (f : Nat → Int32) : Nat → Int32
  | 0 => iN 0
  | n + 1 => sA f n + iN (n + 1) * f (n + 1)
theorem sA_cong {f g : Nat → Int32} : ∀ n, (∀ k, k ≤ n → f k = g k) → sA f n = sA g n := by
  intro n
  induction n with
  | zero => intro _; rfl
  | succ n ih => intro h; rw [sA, sA, ih (fun k hk => h k (by omega)), h (n + 1) (Nat.le_refl _)]
theorem sA_fu {f : Nat → Int32} {w : Nat} {c : Int32} : ∀ n, 1 ≤ w → w ≤ n → sA (fu f w (f w + c)) n = sA f n + iN w * c := by
  intro n
  induction n with
  | zero => intro h1 h2; omega
  | succ n ih =>
    intro h1 h2
    rw [sA, sA]
    by_cases e : w = n + 1
    · subst e
      rw [fu_at, Int32.mul_add, sA_cong n (g := f) (fun k hk => fu_ne (by omega)), Int32.add_assoc]
    · rw [fu_ne (fun z => e z.symm), ih h1 (by omega), Int32.add_assoc, Int32.add_assoc, Int32.add_comm (iN w * c)]
def R_M (I : qq_I) (p : Nat) (M : sM) : Prop := (∀ w, w < 21 → I (p + 1) w = iN (m_bl M w)) ∧ I p 2 = m_tr M ∧ sA (I (p + 2)) 20 = m_ad M
theorem R_M_same {I I' : qq_I} {p : Nat} {M : sM} (h : R_M I p M) (hs : ∀ a, p ≤ a → a < p + 3 → I' a = I a) : R_M I' p M := by
  obtain ⟨h1, h2, h3⟩ := h
  exact ⟨fun k hk => by rw [hs _ (by omega) (by omega)]; exact h1 k hk, by rw [hs p (by omega) (by omega)]; exact h2, by rw [hs _ (by omega) (by omega)]; exact h3⟩
def wM (M : sM) : Prop := ∀ w, w < 21 → m_bl M w < 1000000
def sm_put (M : sM) (w c : Nat) : sM := (fu (m_bl M) w (m_bl M w + c), m_tr M, m_ad M + iN w * iN c)
def sm_back (M : sM) (b : Nat) : sM := (fu (m_bl M) 1 (m_bl M 1 + b), m_tr M - iN b, m_ad M)
section MB
variable {d : Nat} {I : qq_I} {τ : qq_R} {p : Nat} {M : sM}
theorem up_fu {a k : Nat} {v : Int32} : up_2 I a k v a = fu (I a) k v := by
  funext j
  by_cases h : j = k
  · rw [h, up_at, fu_at]
  · rw [up_k h, fu_ne h]
theorem c_copyMarble {q : Nat} (hL : L_M τ p) (hQ : L_M τ q) (hR : R_M I q M) (hne : p + 3 ≤ q ∨ q + 3 ≤ p) : ∃ I', CC d 52 [.ref p, .ref q] (I, τ) = some (.inl none, (I', τ)) ∧ R_M I' p M ∧ Fr p 3 I I' := by
  obtain ⟨hp, k0, k1, k2, q1, q2⟩ := hL
  obtain ⟨hp', k0', k1', k2', q1', q2'⟩ := hQ
  obtain ⟨r1, r2, r3⟩ := hR
  have hn : ¬ q = p := by omega
  refine ⟨up_2 (cp_2 (cp_2 I (q + 1) 0 (p + 1) 0 21) (q + 2) 0 (p + 2) 0 21) p 2 (I q 2), ?_, ?_, ?_⟩
  · rw [c_52]
    simp (disch := omega) only [rd_I_mk, rd_R_mk, rd_L_mk, rd_D_mk, kd_mk, wr_I_mk, cp_mk, gd_true, bd_ret, bd_thr, vl_none, vl_some, iN_add, iN_mul, iN_sub, iN_lt, iN_eq, iN_n, iN_m1, iN_pred, vp_iN, K0_le, nr_b0, nr_b1, m1_lt, lt_m1, iN_ne_m1, m1_ne_iN, not_lt_z, true_and, and_true, and_self, or_true, true_or, or_false, false_or, if_true, if_false, ↓reduceIte, eq_self, up_at, up_a, up_k, cp_c, cp_b, Nat.zero_add, Nat.add_zero, Nat.sub_zero, Nat.le_refl, Nat.add_sub_cancel, fu_at, fu_ne, iN_nz, n10_f, n01_f, ofN, qq_at_100, k110b, Nat.lt_irrefl, Nat.not_lt_zero, ne_eq, not_false_eq_true, not_true_eq_false, b_52_0, b_52_8, b_52_16, b_52_20, k0, k0', k1, k1', k2, k2', q1, q1', q2, q2', Nat.add_right_cancel_iff, hn]
  · refine ⟨fun w hw => ?_, ?_, ?_⟩
    · simp (disch := omega) only [rd_I_mk, rd_R_mk, rd_L_mk, rd_D_mk, kd_mk, wr_I_mk, cp_mk, gd_true, bd_ret, bd_thr, vl_none, vl_some, iN_add, iN_mul, iN_sub, iN_lt, iN_eq, iN_n, iN_m1, iN_pred, vp_iN, K0_le, nr_b0, nr_b1, m1_lt, lt_m1, iN_ne_m1, m1_ne_iN, not_lt_z, true_and, and_true, and_self, or_true, true_or, or_false, false_or, if_true, if_false, ↓reduceIte, eq_self, up_at, up_a, up_k, cp_c, cp_b, Nat.zero_add, Nat.add_zero, Nat.sub_zero, Nat.le_refl, Nat.add_sub_cancel, fu_at, fu_ne, iN_nz, n10_f, n01_f, ofN, qq_at_100, k110b, Nat.lt_irrefl, Nat.not_lt_zero, ne_eq, not_false_eq_true, not_true_eq_false, r1]
    · simp (disch := omega) only [rd_I_mk, rd_R_mk, rd_L_mk, rd_D_mk, kd_mk, wr_I_mk, cp_mk, gd_true, bd_ret, bd_thr, vl_none, vl_some, iN_add, iN_mul, iN_sub, iN_lt, iN_eq, iN_n, iN_m1, iN_pred, vp_iN, K0_le, nr_b0, nr_b1, m1_lt, lt_m1, iN_ne_m1, m1_ne_iN, not_lt_z, true_and, and_true, and_self, or_true, true_or, or_false, false_or, if_true, if_false, ↓reduceIte, eq_self, up_at, up_a, up_k, cp_c, cp_b, Nat.zero_add, Nat.add_zero, Nat.sub_zero, Nat.le_refl, Nat.add_sub_cancel, fu_at, fu_ne, iN_nz, n10_f, n01_f, ofN, qq_at_100, k110b, Nat.lt_irrefl, Nat.not_lt_zero, ne_eq, not_false_eq_true, not_true_eq_false, r2]
    · rw [← r3]
      refine sA_cong 20 (fun k hk => ?_)
      simp (disch := omega) only [rd_I_mk, rd_R_mk, rd_L_mk, rd_D_mk, kd_mk, wr_I_mk, cp_mk, gd_true, bd_ret, bd_thr, vl_none, vl_some, iN_add, iN_mul, iN_sub, iN_lt, iN_eq, iN_n, iN_m1, iN_pred, vp_iN, K0_le, nr_b0, nr_b1, m1_lt, lt_m1, iN_ne_m1, m1_ne_iN, not_lt_z, true_and, and_true, and_self, or_true, true_or, or_false, false_or, if_true, if_false, ↓reduceIte, eq_self, up_at, up_a, up_k, cp_c, cp_b, Nat.zero_add, Nat.add_zero, Nat.sub_zero, Nat.le_refl, Nat.add_sub_cancel, fu_at, fu_ne, iN_nz, n10_f, n01_f, ofN, qq_at_100, k110b, Nat.lt_irrefl, Nat.not_lt_zero, ne_eq, not_false_eq_true, not_true_eq_false]
  · intro a ha
    simp (disch := omega) only [rd_I_mk, rd_R_mk, rd_L_mk, rd_D_mk, kd_mk, wr_I_mk, cp_mk, gd_true, bd_ret, bd_thr, vl_none, vl_some, iN_add, iN_mul, iN_sub, iN_lt, iN_eq, iN_n, iN_m1, iN_pred, vp_iN, K0_le, nr_b0, nr_b1, m1_lt, lt_m1, iN_ne_m1, m1_ne_iN, not_lt_z, true_and, and_true, and_self, or_true, true_or, or_false, false_or, if_true, if_false, ↓reduceIte, eq_self, up_at, up_a, up_k, cp_c, cp_b, Nat.zero_add, Nat.add_zero, Nat.sub_zero, Nat.le_refl, Nat.add_sub_cancel, fu_at, fu_ne, iN_nz, n10_f, n01_f, ofN, qq_at_100, k110b, Nat.lt_irrefl, Nat.not_lt_zero, ne_eq, not_false_eq_true, not_true_eq_false, up_c]
theorem c_putBlocks (hL : L_M τ p) (hR : R_M I p M) (hw : wM M) {w c : Nat} (h1 : 1 ≤ w) (h2 : w ≤ 20) : ∃ I', CC d 53 [.ref p, .int (iN w), .int (iN c)] (I, τ) = some (.inl (some (.int (iN (m_bl M w + c)))), (I', τ)) ∧ R_M I' p (sm_put M w c) ∧ Fr p 3 I I' := by
  obtain ⟨hp, k0, k1, k2, q1, q2⟩ := hL
  obtain ⟨r1, r2, r3⟩ := hR
  refine ⟨up_2 (up_2 I (p + 1) w (iN (m_bl M w + c))) (p + 2) w (I (p + 2) w + iN c), ?_, ?_, ?_⟩
  · rw [c_53]
    simp (disch := omega) only [rd_I_mk, rd_R_mk, rd_L_mk, rd_D_mk, kd_mk, wr_I_mk, cp_mk, gd_true, bd_ret, bd_thr, vl_none, vl_some, iN_add, iN_mul, iN_sub, iN_lt, iN_eq, iN_n, iN_m1, iN_pred, vp_iN, K0_le, nr_b0, nr_b1, m1_lt, lt_m1, iN_ne_m1, m1_ne_iN, not_lt_z, true_and, and_true, and_self, or_true, true_or, or_false, false_or, if_true, if_false, ↓reduceIte, eq_self, up_at, up_a, up_k, cp_c, cp_b, Nat.zero_add, Nat.add_zero, Nat.sub_zero, Nat.le_refl, Nat.add_sub_cancel, fu_at, fu_ne, iN_nz, n10_f, n01_f, ofN, qq_at_100, k110b, Nat.lt_irrefl, Nat.not_lt_zero, ne_eq, not_false_eq_true, not_true_eq_false, b_53_0, b_53_8, b_53_16, k0, k1, k2, q1, q2, r1]
  · refine ⟨fun k hk => ?_, ?_, ?_⟩
    · show _ = iN (fu (m_bl M) w (m_bl M w + c) k)
      by_cases e : k = w
      · subst e; simp (disch := omega) only [rd_I_mk, rd_R_mk, rd_L_mk, rd_D_mk, kd_mk, wr_I_mk, cp_mk, gd_true, bd_ret, bd_thr, vl_none, vl_some, iN_add, iN_mul, iN_sub, iN_lt, iN_eq, iN_n, iN_m1, iN_pred, vp_iN, K0_le, nr_b0, nr_b1, m1_lt, lt_m1, iN_ne_m1, m1_ne_iN, not_lt_z, true_and, and_true, and_self, or_true, true_or, or_false, false_or, if_true, if_false, ↓reduceIte, eq_self, up_at, up_a, up_k, cp_c, cp_b, Nat.zero_add, Nat.add_zero, Nat.sub_zero, Nat.le_refl, Nat.add_sub_cancel, fu_at, fu_ne, iN_nz, n10_f, n01_f, ofN, qq_at_100, k110b, Nat.lt_irrefl, Nat.not_lt_zero, ne_eq, not_false_eq_true, not_true_eq_false]
      · simp (disch := omega) only [rd_I_mk, rd_R_mk, rd_L_mk, rd_D_mk, kd_mk, wr_I_mk, cp_mk, gd_true, bd_ret, bd_thr, vl_none, vl_some, iN_add, iN_mul, iN_sub, iN_lt, iN_eq, iN_n, iN_m1, iN_pred, vp_iN, K0_le, nr_b0, nr_b1, m1_lt, lt_m1, iN_ne_m1, m1_ne_iN, not_lt_z, true_and, and_true, and_self, or_true, true_or, or_false, false_or, if_true, if_false, ↓reduceIte, eq_self, up_at, up_a, up_k, cp_c, cp_b, Nat.zero_add, Nat.add_zero, Nat.sub_zero, Nat.le_refl, Nat.add_sub_cancel, fu_at, fu_ne, iN_nz, n10_f, n01_f, ofN, qq_at_100, k110b, Nat.lt_irrefl, Nat.not_lt_zero, ne_eq, not_false_eq_true, not_true_eq_false, r1]
    · show _ = m_tr M
      simp (disch := omega) only [rd_I_mk, rd_R_mk, rd_L_mk, rd_D_mk, kd_mk, wr_I_mk, cp_mk, gd_true, bd_ret, bd_thr, vl_none, vl_some, iN_add, iN_mul, iN_sub, iN_lt, iN_eq, iN_n, iN_m1, iN_pred, vp_iN, K0_le, nr_b0, nr_b1, m1_lt, lt_m1, iN_ne_m1, m1_ne_iN, not_lt_z, true_and, and_true, and_self, or_true, true_or, or_false, false_or, if_true, if_false, ↓reduceIte, eq_self, up_at, up_a, up_k, cp_c, cp_b, Nat.zero_add, Nat.add_zero, Nat.sub_zero, Nat.le_refl, Nat.add_sub_cancel, fu_at, fu_ne, iN_nz, n10_f, n01_f, ofN, qq_at_100, k110b, Nat.lt_irrefl, Nat.not_lt_zero, ne_eq, not_false_eq_true, not_true_eq_false, r2]
    · show _ = m_ad M + iN w * iN c
      rw [up_fu, up_c (a := p + 1) (by omega), sA_fu 20 h1 h2, r3]
  · exact Fr_tr (Fr_up (by omega)) (Fr_up (by omega))
theorem c_giveBack (hL : L_M τ p) (hR : R_M I p M) (hw : wM M) {b : Nat} : ∃ I', CC d 54 [.ref p, .int (iN b)] (I, τ) = some (.inl none, (I', τ)) ∧ R_M I' p (sm_back M b) ∧ Fr p 3 I I' := by
  obtain ⟨hp, k0, k1, k2, q1, q2⟩ := hL
  obtain ⟨r1, r2, r3⟩ := hR
  have r11 := r1 1 (by omega)
  refine ⟨up_2 (up_2 I p 2 (m_tr M - iN b)) (p + 1) 1 (iN (m_bl M 1 + b)), ?_, ?_, ?_⟩
  · rw [c_54]
    simp (disch := omega) only [b_54_0, b_54_6, b_54_14, k0, k1, q1, r11, r2, rd_I_mk, rd_R_mk, kd_mk, wr_I_mk, gd_true, K0_le, vp_iN, iN_n, iN_add, up_a, up_at, true_and, and_true, eq_self]
  · refine ⟨fun k hk => ?_, ?_, ?_⟩
    · show _ = iN (fu (m_bl M) 1 (m_bl M 1 + b) k)
      by_cases e : k = 1
      · subst e; simp (disch := omega) only [rd_I_mk, rd_R_mk, rd_L_mk, rd_D_mk, kd_mk, wr_I_mk, cp_mk, gd_true, bd_ret, bd_thr, vl_none, vl_some, iN_add, iN_mul, iN_sub, iN_lt, iN_eq, iN_n, iN_m1, iN_pred, vp_iN, K0_le, nr_b0, nr_b1, m1_lt, lt_m1, iN_ne_m1, m1_ne_iN, not_lt_z, true_and, and_true, and_self, or_true, true_or, or_false, false_or, if_true, if_false, ↓reduceIte, eq_self, up_at, up_a, up_k, cp_c, cp_b, Nat.zero_add, Nat.add_zero, Nat.sub_zero, Nat.le_refl, Nat.add_sub_cancel, fu_at, fu_ne, iN_nz, n10_f, n01_f, ofN, qq_at_100, k110b, Nat.lt_irrefl, Nat.not_lt_zero, ne_eq, not_false_eq_true, not_true_eq_false]
      · simp (disch := omega) only [rd_I_mk, rd_R_mk, rd_L_mk, rd_D_mk, kd_mk, wr_I_mk, cp_mk, gd_true, bd_ret, bd_thr, vl_none, vl_some, iN_add, iN_mul, iN_sub, iN_lt, iN_eq, iN_n, iN_m1, iN_pred, vp_iN, K0_le, nr_b0, nr_b1, m1_lt, lt_m1, iN_ne_m1, m1_ne_iN, not_lt_z, true_and, and_true, and_self, or_true, true_or, or_false, false_or, if_true, if_false, ↓reduceIte, eq_self, up_at, up_a, up_k, cp_c, cp_b, Nat.zero_add, Nat.add_zero, Nat.sub_zero, Nat.le_refl, Nat.add_sub_cancel, fu_at, fu_ne, iN_nz, n10_f, n01_f, ofN, qq_at_100, k110b, Nat.lt_irrefl, Nat.not_lt_zero, ne_eq, not_false_eq_true, not_true_eq_false, r1]
    · show _ = m_tr M - iN b
      rw [up_a (by omega), up_at]
    · show _ = m_ad M
      rw [up_c (by omega), up_c (by omega)]
      exact r3
  · exact Fr_tr (Fr_up (by omega)) (Fr_up (by omega))
theorem c_weightOfBlocks {q : Nat} (hk : tK τ q = (100, 21)) : CC d 57 [.ref q] (I, τ) = some (.inl (some (.int (sA (I q) 20))), (I, τ)) := by
  have lp : ∀ m k, k + m = 20 → RR d 57 4 [some (.ref q), some (.int (sA (I q) k)), some (.int (iN (k + 1)))] [] (I, τ) = some (.inl (some (.int (sA (I q) 20))), (I, τ)) := by
    intro m
    induction m with
    | zero =>
      intro k hk9
      rw [b_57_4]
      have e : ¬ k + 1 < 21 := by omega
      simp (disch := omega) only [rd_I_mk, rd_R_mk, rd_L_mk, rd_D_mk, kd_mk, wr_I_mk, cp_mk, gd_true, bd_ret, bd_thr, vl_none, vl_some, iN_add, iN_mul, iN_sub, iN_lt, iN_eq, iN_n, iN_m1, iN_pred, vp_iN, K0_le, nr_b0, nr_b1, m1_lt, lt_m1, iN_ne_m1, m1_ne_iN, not_lt_z, true_and, and_true, and_self, or_true, true_or, or_false, false_or, if_true, if_false, ↓reduceIte, eq_self, up_at, up_a, up_k, cp_c, cp_b, Nat.zero_add, Nat.add_zero, Nat.sub_zero, Nat.le_refl, Nat.add_sub_cancel, fu_at, fu_ne, iN_nz, n10_f, n01_f, ofN, qq_at_100, k110b, Nat.lt_irrefl, Nat.not_lt_zero, ne_eq, not_false_eq_true, not_true_eq_false, hk, e]
      rw [show k = 20 by omega]
    | succ m ih =>
      intro k hk9
      rw [b_57_4]
      have e : k + 1 < 21 := by omega
      simp (disch := omega) only [rd_I_mk, rd_R_mk, rd_L_mk, rd_D_mk, kd_mk, wr_I_mk, cp_mk, gd_true, bd_ret, bd_thr, vl_none, vl_some, iN_add, iN_mul, iN_sub, iN_lt, iN_eq, iN_n, iN_m1, iN_pred, vp_iN, K0_le, nr_b0, nr_b1, m1_lt, lt_m1, iN_ne_m1, m1_ne_iN, not_lt_z, true_and, and_true, and_self, or_true, true_or, or_false, false_or, if_true, if_false, ↓reduceIte, eq_self, up_at, up_a, up_k, cp_c, cp_b, Nat.zero_add, Nat.add_zero, Nat.sub_zero, Nat.le_refl, Nat.add_sub_cancel, fu_at, fu_ne, iN_nz, n10_f, n01_f, ofN, qq_at_100, k110b, Nat.lt_irrefl, Nat.not_lt_zero, ne_eq, not_false_eq_true, not_true_eq_false, hk, e]
      exact ih (k + 1) (by omega)
  rw [c_57, b_57_0]
  exact lp 20 0 (by omega)
theorem c_weightHeld (hL : L_M τ p) (hR : R_M I p M) : CC (d + 1) 55 [.ref p] (I, τ) = some (.inl (some (.int (sA (fun w => iN (m_bl M w)) 20 + m_tr M))), (I, τ)) := by
  obtain ⟨hp, k0, k1, k2, q1, q2⟩ := hL
  obtain ⟨r1, r2, r3⟩ := hR
  have h := c_weightOfBlocks (d := d) (I := I) q1
  rw [sA_cong 20 (g := fun w => iN (m_bl M w)) (fun k hk => r1 k (by omega))] at h
  rw [c_55, b_55_0]
  simp (disch := omega) only [rd_I_mk, rd_R_mk, rd_L_mk, rd_D_mk, kd_mk, wr_I_mk, cp_mk, gd_true, bd_ret, bd_thr, vl_none, vl_some, iN_add, iN_mul, iN_sub, iN_lt, iN_eq, iN_n, iN_m1, iN_pred, vp_iN, K0_le, nr_b0, nr_b1, m1_lt, lt_m1, iN_ne_m1, m1_ne_iN, not_lt_z, true_and, and_true, and_self, or_true, true_or, or_false, false_or, if_true, if_false, ↓reduceIte, eq_self, up_at, up_a, up_k, cp_c, cp_b, Nat.zero_add, Nat.add_zero, Nat.sub_zero, Nat.le_refl, Nat.add_sub_cancel, fu_at, fu_ne, iN_nz, n10_f, n01_f, ofN, qq_at_100, k110b, Nat.lt_irrefl, Nat.not_lt_zero, ne_eq, not_false_eq_true, not_true_eq_false, k0, k1, h, b_55_3, r2]
theorem c_weightAdded (hL : L_M τ p) (hR : R_M I p M) : CC (d + 1) 56 [.ref p] (I, τ) = some (.inl (some (.int (m_ad M))), (I, τ)) := by
  obtain ⟨hp, k0, k1, k2, q1, q2⟩ := hL
  obtain ⟨r1, r2, r3⟩ := hR
  have h := c_weightOfBlocks (d := d) (I := I) q2
  rw [r3] at h
  rw [c_56, b_56_0]
  simp (disch := omega) only [rd_I_mk, rd_R_mk, rd_L_mk, rd_D_mk, kd_mk, wr_I_mk, cp_mk, gd_true, bd_ret, bd_thr, vl_none, vl_some, iN_add, iN_mul, iN_sub, iN_lt, iN_eq, iN_n, iN_m1, iN_pred, vp_iN, K0_le, nr_b0, nr_b1, m1_lt, lt_m1, iN_ne_m1, m1_ne_iN, not_lt_z, true_and, and_true, and_self, or_true, true_or, or_false, false_or, if_true, if_false, ↓reduceIte, eq_self, up_at, up_a, up_k, cp_c, cp_b, Nat.zero_add, Nat.add_zero, Nat.sub_zero, Nat.le_refl, Nat.add_sub_cancel, fu_at, fu_ne, iN_nz, n10_f, n01_f, ofN, qq_at_100, k110b, Nat.lt_irrefl, Nat.not_lt_zero, ne_eq, not_false_eq_true, not_true_eq_false, k0, k2, h, b_56_3]
end MB
/-! leaps -/
def L_L (τ : qq_R) (q : Nat) : Prop := 70 ≤ q ∧ tK τ q = (5, 0) ∧ tR τ q 0 = q + 1 ∧ tR τ q 1 = q + 2 ∧ tK τ (q + 1) = (100, 8) ∧ tK τ (q + 2) = (100, 8)
section LP9
variable {d : Nat} {I : qq_I} {τ : qq_R} {p q : Nat} {P : sP}
theorem c_doubleLeaps (hL : L_L τ q) {n : Nat} (hn : n ≤ 8) {g : Nat → Nat} (hg : ∀ k, k < n → g k < n) (hI : ∀ k, k < n → I (q + 1) k = iN (g k)) : ∃ I', CC d 50 [.ref q, .int (iN n)] (I, τ) = some (.inl none, (I', τ)) ∧ (∀ k, k < n → I' (q + 1) k = iN (g (g k))) ∧ Fr q 3 I I' := by
  obtain ⟨hp, k0, k1, k2, q1, q2⟩ := hL
  have lp : ∀ m k (J : qq_I), k + m = n → (∀ a, a ≠ q + 2 → J a = I a) → (∀ i, i < k → J (q + 2) i = iN (g (g i))) → ∃ I', RR d 50 2 [some (.ref q), some (.int (iN n)), some (.int (iN k))] [] (J, τ) = some (.inl none, (I', τ)) ∧ (∀ k, k < n → I' (q + 1) k = iN (g (g k))) ∧ Fr q 3 I I' := by
    intro m
    induction m with
    | zero =>
      intro k J hk g1 g2
      have e : ¬ k < n := by omega
      refine ⟨cp_2 J (q + 2) 0 (q + 1) 0 n, ?_, fun i hi => ?_, fun a ha => ?_⟩
      · rw [b_50_2]
        have e3 : ¬ q + 2 = q + 1 := by omega
        simp (disch := omega) only [rd_I_mk, rd_R_mk, rd_L_mk, rd_D_mk, kd_mk, wr_I_mk, cp_mk, gd_true, bd_ret, bd_thr, vl_none, vl_some, iN_add, iN_mul, iN_sub, iN_lt, iN_eq, iN_n, iN_m1, iN_pred, vp_iN, K0_le, nr_b0, nr_b1, m1_lt, lt_m1, iN_ne_m1, m1_ne_iN, not_lt_z, true_and, and_true, and_self, or_true, true_or, or_false, false_or, if_true, if_false, ↓reduceIte, eq_self, up_at, up_a, up_k, cp_c, cp_b, Nat.zero_add, Nat.add_zero, Nat.sub_zero, Nat.le_refl, Nat.add_sub_cancel, fu_at, fu_ne, iN_nz, n10_f, n01_f, ofN, qq_at_100, k110b, Nat.lt_irrefl, Nat.not_lt_zero, ne_eq, not_false_eq_true, not_true_eq_false, e, k0, k1, k2, q1, q2, e3, hn, b_50_26]
      · simp (disch := omega) only [rd_I_mk, rd_R_mk, rd_L_mk, rd_D_mk, kd_mk, wr_I_mk, cp_mk, gd_true, bd_ret, bd_thr, vl_none, vl_some, iN_add, iN_mul, iN_sub, iN_lt, iN_eq, iN_n, iN_m1, iN_pred, vp_iN, K0_le, nr_b0, nr_b1, m1_lt, lt_m1, iN_ne_m1, m1_ne_iN, not_lt_z, true_and, and_true, and_self, or_true, true_or, or_false, false_or, if_true, if_false, ↓reduceIte, eq_self, up_at, up_a, up_k, cp_c, cp_b, Nat.zero_add, Nat.add_zero, Nat.sub_zero, Nat.le_refl, Nat.add_sub_cancel, fu_at, fu_ne, iN_nz, n10_f, n01_f, ofN, qq_at_100, k110b, Nat.lt_irrefl, Nat.not_lt_zero, ne_eq, not_false_eq_true, not_true_eq_false, g2]
      · rw [cp_c (by omega), g1 a (by omega)]
    | succ m ih =>
      intro k J hk g1 g2
      rw [b_50_2]
      have e : k < n := by omega
      have e1 := g1 (q + 1) (by omega)
      have e2 := hg k e
      have e3 := hg _ e2
      simp (disch := omega) only [rd_I_mk, rd_R_mk, rd_L_mk, rd_D_mk, kd_mk, wr_I_mk, cp_mk, gd_true, bd_ret, bd_thr, vl_none, vl_some, iN_add, iN_mul, iN_sub, iN_lt, iN_eq, iN_n, iN_m1, iN_pred, vp_iN, K0_le, nr_b0, nr_b1, m1_lt, lt_m1, iN_ne_m1, m1_ne_iN, not_lt_z, true_and, and_true, and_self, or_true, true_or, or_false, false_or, if_true, if_false, ↓reduceIte, eq_self, up_at, up_a, up_k, cp_c, cp_b, Nat.zero_add, Nat.add_zero, Nat.sub_zero, Nat.le_refl, Nat.add_sub_cancel, fu_at, fu_ne, iN_nz, n10_f, n01_f, ofN, qq_at_100, k110b, Nat.lt_irrefl, Nat.not_lt_zero, ne_eq, not_false_eq_true, not_true_eq_false, e, k0, k1, k2, q1, q2, e1, hI, b_50_16]
      refine ih (k + 1) _ (by omega) (fun a ha => ?_) (fun i hi => ?_)
      · rw [up_c ha]; exact g1 a ha
      · by_cases ei : i = k
        · rw [ei, up_at]
        · rw [up_k ei]; exact g2 i (by omega)
  rw [c_50, b_50_0]
  exact lp n 0 I (by omega) (fun _ _ => rfl) (fun i hi => by omega)
theorem c_leaps (hL : L_L τ q) (hP : L_P τ p) (hR : R_P I p P) (hw : wP P) (hne : p + 6 ≤ q ∨ q + 3 ≤ p) {x n : Nat} (hx : x < p_np P) (hn : n < 1000000) : ∃ I', CC (d + 1) 49 [.ref q, .ref p, .int (iN x), .int (iN n)] (I, τ) = some (.inl (some (.int (iN (it (p_ar P) n x)))), (I', τ)) ∧ Fr q 3 I I' := by
  have hL0 := hL
  obtain ⟨hq, k0, k1, k2, q1, q2⟩ := hL
  obtain ⟨hp, j0, j1, j3, j4, j5, j6, i1, i2, i3, i4, i5⟩ := hP
  obtain ⟨r0, r2, r3, r4, r5, r6, r7⟩ := hR
  have w1 := hw.1
  have w3 := hw.2.2.1
  have lp : ∀ B r (J : qq_I) (g : Nat → Nat) (y : Nat), r < B → r < 1000000 → y < p_np P → (∀ a, (a < q ∨ q + 3 ≤ a) → J a = I a) → (∀ k, k < p_np P → g k < p_np P) → (∀ k, k < p_np P → J (q + 1) k = iN (g k)) →
      ∃ I', RR (d + 1) 49 13 [some (.ref q), some (.ref p), some (.int (iN x)), some (.int (iN n)), some (.int (iN y)), some (.int (iN r))] [] (J, τ) = some (.inl (some (.int (iN (it g r y)))), (I', τ)) ∧ Fr q 3 I I' := by
    intro B
    induction B with
    | zero => intro r J g y h; omega
    | succ B ih =>
      intro r J g y hB hr hy f1 f2 f3
      by_cases h0 : 0 < r
      · have e0 := f1 p (by omega)
        obtain ⟨J', s1, s2, s3⟩ := c_doubleLeaps (d := d) (I := J) hL0 (n := p_np P) w1 f2 f3
        have hd : it (fun k => g (g k)) (r / 2) = it (it g 2) (r / 2) := rfl
        by_cases ho : r % 2 = 1
        · obtain ⟨I', t1, t2⟩ := ih (r / 2) J' (fun k => g (g k)) (g y) (by omega) (by omega) (f2 y hy) (fun a ha => by rw [s3 a ha, f1 a ha]) (fun k hk => f2 _ (f2 k hk)) s2
          refine ⟨I', ?_, t2⟩
          rw [b_49_13]
          simp (disch := omega) only [rd_I_mk, rd_R_mk, rd_L_mk, rd_D_mk, kd_mk, wr_I_mk, cp_mk, gd_true, bd_ret, bd_thr, vl_none, vl_some, iN_add, iN_mul, iN_sub, iN_lt, iN_eq, iN_n, iN_m1, iN_pred, vp_iN, K0_le, nr_b0, nr_b1, m1_lt, lt_m1, iN_ne_m1, m1_ne_iN, not_lt_z, true_and, and_true, and_self, or_true, true_or, or_false, false_or, if_true, if_false, ↓reduceIte, eq_self, up_at, up_a, up_k, cp_c, cp_b, Nat.zero_add, Nat.add_zero, Nat.sub_zero, Nat.le_refl, Nat.add_sub_cancel, fu_at, fu_ne, iN_nz, n10_f, n01_f, ofN, qq_at_100, k110b, Nat.lt_irrefl, Nat.not_lt_zero, ne_eq, not_false_eq_true, not_true_eq_false, h0, iN_and1, ho, k0, k1, q1, f3, b_49_25, j0, e0, r0, s1, b_49_29, iN_shr, Nat.pow_one]
          rw [t1, hd, it_mul, show r = r / 2 * 2 + 1 by omega, it]
          rw [show (r / 2 * 2 + 1) / 2 = r / 2 by omega]
        · obtain ⟨I', t1, t2⟩ := ih (r / 2) J' (fun k => g (g k)) y (by omega) (by omega) hy (fun a ha => by rw [s3 a ha, f1 a ha]) (fun k hk => f2 _ (f2 k hk)) s2
          refine ⟨I', ?_, t2⟩
          rw [b_49_13]
          simp (disch := omega) only [rd_I_mk, rd_R_mk, rd_L_mk, rd_D_mk, kd_mk, wr_I_mk, cp_mk, gd_true, bd_ret, bd_thr, vl_none, vl_some, iN_add, iN_mul, iN_sub, iN_lt, iN_eq, iN_n, iN_m1, iN_pred, vp_iN, K0_le, nr_b0, nr_b1, m1_lt, lt_m1, iN_ne_m1, m1_ne_iN, not_lt_z, true_and, and_true, and_self, or_true, true_or, or_false, false_or, if_true, if_false, ↓reduceIte, eq_self, up_at, up_a, up_k, cp_c, cp_b, Nat.zero_add, Nat.add_zero, Nat.sub_zero, Nat.le_refl, Nat.add_sub_cancel, fu_at, fu_ne, iN_nz, n10_f, n01_f, ofN, qq_at_100, k110b, Nat.lt_irrefl, Nat.not_lt_zero, ne_eq, not_false_eq_true, not_true_eq_false, h0, iN_and1, ho, k0, k1, q1, f3, b_49_25, j0, e0, r0, s1, b_49_29, iN_shr, Nat.pow_one]
          rw [t1, hd, it_mul, show r / 2 * 2 = r by omega]
      · refine ⟨J, ?_, f1⟩
        rw [b_49_13]
        simp (disch := omega) only [rd_I_mk, rd_R_mk, rd_L_mk, rd_D_mk, kd_mk, wr_I_mk, cp_mk, gd_true, bd_ret, bd_thr, vl_none, vl_some, iN_add, iN_mul, iN_sub, iN_lt, iN_eq, iN_n, iN_m1, iN_pred, vp_iN, K0_le, nr_b0, nr_b1, m1_lt, lt_m1, iN_ne_m1, m1_ne_iN, not_lt_z, true_and, and_true, and_self, or_true, true_or, or_false, false_or, if_true, if_false, ↓reduceIte, eq_self, up_at, up_a, up_k, cp_c, cp_b, Nat.zero_add, Nat.add_zero, Nat.sub_zero, Nat.le_refl, Nat.add_sub_cancel, fu_at, fu_ne, iN_nz, n10_f, n01_f, ofN, qq_at_100, k110b, Nat.lt_irrefl, Nat.not_lt_zero, ne_eq, not_false_eq_true, not_true_eq_false, h0]
        rw [show r = 0 by omega]; rfl
  obtain ⟨I', h1, h2⟩ := lp (n + 1) n (cp_2 I (p + 1) 0 (q + 1) 0 (p_np P)) (p_ar P) x (by omega) hn hx (fun a ha => cp_c (by omega)) w3 (fun k hk => by simp (disch := omega) only [rd_I_mk, rd_R_mk, rd_L_mk, rd_D_mk, kd_mk, wr_I_mk, cp_mk, gd_true, bd_ret, bd_thr, vl_none, vl_some, iN_add, iN_mul, iN_sub, iN_lt, iN_eq, iN_n, iN_m1, iN_pred, vp_iN, K0_le, nr_b0, nr_b1, m1_lt, lt_m1, iN_ne_m1, m1_ne_iN, not_lt_z, true_and, and_true, and_self, or_true, true_or, or_false, false_or, if_true, if_false, ↓reduceIte, eq_self, up_at, up_a, up_k, cp_c, cp_b, Nat.zero_add, Nat.add_zero, Nat.sub_zero, Nat.le_refl, Nat.add_sub_cancel, fu_at, fu_ne, iN_nz, n10_f, n01_f, ofN, qq_at_100, k110b, Nat.lt_irrefl, Nat.not_lt_zero, ne_eq, not_false_eq_true, not_true_eq_false, r3])
  refine ⟨I', ?_, h2⟩
  have e3 : ¬ p + 1 = q + 1 := by omega
  rw [c_49]
  simp (disch := omega) only [rd_I_mk, rd_R_mk, rd_L_mk, rd_D_mk, kd_mk, wr_I_mk, cp_mk, gd_true, bd_ret, bd_thr, vl_none, vl_some, iN_add, iN_mul, iN_sub, iN_lt, iN_eq, iN_n, iN_m1, iN_pred, vp_iN, K0_le, nr_b0, nr_b1, m1_lt, lt_m1, iN_ne_m1, m1_ne_iN, not_lt_z, true_and, and_true, and_self, or_true, true_or, or_false, false_or, if_true, if_false, ↓reduceIte, eq_self, up_at, up_a, up_k, cp_c, cp_b, Nat.zero_add, Nat.add_zero, Nat.sub_zero, Nat.le_refl, Nat.add_sub_cancel, fu_at, fu_ne, iN_nz, n10_f, n01_f, ofN, qq_at_100, k110b, Nat.lt_irrefl, Nat.not_lt_zero, ne_eq, not_false_eq_true, not_true_eq_false, b_49_0, b_49_9, j0, k0, j1, i1, k1, q1, e3, r0, w1]
  exact h1
end LP9
