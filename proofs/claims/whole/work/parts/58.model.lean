/-! THE MODEL: how it holds a state; its small parts -/
/-- a state laid in one row -/
def R_F (f : Nat → Int32) (S : sS) : Prop := f 0 = iN (s_ni S) ∧ f 1 = caC (s_he S) ∧ f 2 = m_tr (s_M S) ∧ f 3 = m_ad (s_M S) ∧ f 4 = s_up S ∧ f 5 = s_di S ∧ f 6 = s_la S ∧ f 7 = iN (unx (s_U S)) ∧ f 8 = iN (p_np (s_P S)) ∧ f 9 = iN (p_ns (s_P S)) ∧ f 10 = iN (un (s_U S)) ∧
  (∀ k, k < p_np (s_P S) → f (11 + k) = iN (p_ar (s_P S) k)) ∧ (∀ k, k < p_ns (s_P S) → f (19 + 3 * k) = iN (p_pl (s_P S) k) ∧ f (19 + 3 * k + 1) = iN (p_ho (s_P S) k) ∧ f (19 + 3 * k + 2) = iN (p_we (s_P S) k)) ∧
  (∀ k, k < un (s_U S) → f (37 + 6 * k) = iN (w_id (ug (s_U S) k)) ∧ f (37 + 6 * k + 1) = iN (w_of (ug (s_U S) k)) ∧ f (37 + 6 * k + 2) = iN (w_la (ug (s_U S) k)) ∧ f (37 + 6 * k + 3) = iN (w_ba (ug (s_U S) k)) ∧ f (37 + 6 * k + 4) = iN (w_pd (ug (s_U S) k)) ∧ f (37 + 6 * k + 5) = iN (w_ca (ug (s_U S) k))) ∧
  (∀ w, w < 21 → f (85 + w) = iN (m_bl (s_M S) w))
theorem R_F_same {f g : Nat → Int32} {B : Nat} {S : sS} (h : R_F f S) (hw : wS B S) (hs : ∀ k, k < 106 → g k = f k) : R_F g S := by
  have w1 := hw.2.1.1
  have w2 := hw.2.1.2.1
  have w3 := hw.2.2.1.1
  obtain ⟨h0, h1, h2, h3, h4, h5, h6, h7, h8, h9, h10, h11, h12, h13, h14⟩ := h
  refine ⟨by rw [hs 0 (by omega)]; exact h0, by rw [hs 1 (by omega)]; exact h1, by rw [hs 2 (by omega)]; exact h2, by rw [hs 3 (by omega)]; exact h3, by rw [hs 4 (by omega)]; exact h4, by rw [hs 5 (by omega)]; exact h5, by rw [hs 6 (by omega)]; exact h6, by rw [hs 7 (by omega)]; exact h7, by rw [hs 8 (by omega)]; exact h8, by rw [hs 9 (by omega)]; exact h9, by rw [hs 10 (by omega)]; exact h10, fun k hk => by rw [hs _ (by omega)]; exact h11 k hk, fun k hk => ?_, fun k hk => ?_, fun w hw => by rw [hs _ (by omega)]; exact h14 w hw⟩
  · rw [hs _ (by omega), hs _ (by omega), hs _ (by omega)]; exact h12 k hk
  · rw [hs _ (by omega), hs _ (by omega), hs _ (by omega), hs _ (by omega), hs _ (by omega), hs _ (by omega)]; exact h13 k hk
def L_N (τ : qq_R) (m : Nat) : Prop := 70 ≤ m ∧ tK τ m = (13, 0) ∧ tR τ m 0 = m + 1 ∧ tR τ m 1 = m + 2 ∧ tR τ m 2 = m + 3 ∧ tR τ m 3 = m + 4 ∧ tR τ m 4 = m + 5 ∧ tR τ m 5 = m + 6 ∧ tR τ m 13 = m + 7 ∧ tR τ m 15 = m + 8 ∧ tR τ m 16 = m + 9 ∧
  tK τ (m + 1) = (100, 106) ∧ tK τ (m + 2) = (100, 106) ∧ tK τ (m + 3) = (100, 106) ∧ tK τ (m + 4) = (100, 106) ∧ tK τ (m + 5) = (100, 848) ∧ tK τ (m + 6) = (100, 1281) ∧ tK τ (m + 7) = (100, 60) ∧ tK τ (m + 8) = (100, 60) ∧ tK τ (m + 9) = (100, 155)
theorem L_N_T {τ τ' : qq_R} {m : Nat} (h : L_N τ m) (hs : Tr m 10 τ τ') : L_N τ' m := by
  obtain ⟨h0, h1, h2, h3, h4, h5, h6, h7, h8, h9, h10, g1, g2, g3, g4, g5, g6, g7, g8, g9⟩ := h
  refine ⟨h0, ?_, ?_, ?_, ?_, ?_, ?_, ?_, ?_, ?_, ?_, ?_, ?_, ?_, ?_, ?_, ?_, ?_, ?_, ?_⟩ <;> first | (rw [Tr_K hs (by omega) (by omega)]; assumption) | (rw [Tr_R hs (by omega) (by omega)]; assumption)
/-- the model holds all but the state of now -/
def R_Y (I : qq_I) (m B : Nat) (C : sC) : Prop := wS B (g_S C) ∧ I m 6 = iN (g_H C).length ∧ (g_H C).length ≤ 8 ∧ (∀ i (h : i < (g_H C).length), R_F (fun k => I (m + 5) (106 * i + k)) (g_H C)[i] ∧ wS B (g_H C)[i]) ∧ I m 12 = b01 (g_Z C).isSome ∧ (∀ T, g_Z C = some T → R_F (I (m + 4)) T ∧ wS B T) ∧
  I m 8 = caC (g_E C) ∧ I m 9 = caC (g_F C) ∧ (g_F C ≠ 0 → I m 10 = iN (g_G C)) ∧ g_G C < 128 ∧ g_E C ≤ 1000 ∧ g_F C ≤ 1000 ∧
  I m 14 = iN (g_O C).length ∧ (g_O C).length ≤ 60 ∧ (∀ i (h : i < (g_O C).length), I (m + 7) i = iN (g_O C)[i]) ∧ (∀ x ∈ g_O C, x < 128) ∧
  I m 17 = iN (g_T C).length ∧ (g_T C).length ≤ 60 ∧ (∀ i (h : i < (g_T C).length), I (m + 8) i = iN (g_T C)[i]) ∧ (∀ x ∈ g_T C, 32 ≤ x ∧ x ≤ 126)
def R_N (I : qq_I) (τ : qq_R) (m B : Nat) (C : sC) : Prop := L_N τ m ∧ R_F (I (m + 1)) (g_S C) ∧ R_Y I m B C
theorem cp_step {I : qq_I} {a sp b dp n : Nat} (hne : a ≠ b ∨ dp + 106 ≤ sp ∨ sp + 106 ≤ dp) (hn : n < 106) : up_2 (cp_2 I a sp b dp n) b (dp + n) (cp_2 I a sp b dp n a (sp + n)) = cp_2 I a sp b dp (n + 1) := by
  have e : cp_2 I a sp b dp n a (sp + n) = I a (sp + n) := if_neg (fun q => by omega)
  rw [e]
  funext c j
  by_cases h1 : c = b
  · subst h1
    by_cases h2 : j = dp + n
    · subst h2
      rw [up_at, cp_b (by omega), Nat.add_sub_cancel_left]
    · rw [up_k h2]
      by_cases h3 : dp ≤ j ∧ j < dp + n
      · rw [cp_b h3, cp_b (by omega)]
      · rw [cp_o h3, cp_o (by omega)]
  · rw [up_c h1, cp_c h1, cp_c h1]
section MO
variable {d : Nat} {I : qq_I} {τ : qq_R} {m B : Nat} {S : sS}
theorem c_copies {a b sp dp na nb : Nat} (ha : tK τ a = (100, na)) (hb : tK τ b = (100, nb)) (hb70 : 70 ≤ b) (hsp : sp + 106 ≤ na) (hdp : dp + 106 ≤ nb) (hna : na ≤ 10000) (hnb : nb ≤ 10000) (hne : a ≠ b ∨ dp + 106 ≤ sp ∨ sp + 106 ≤ dp) :
    CC d 210 [.ref a, .int (iN sp), .ref b, .int (iN dp)] (I, τ) = some (.inl none, (cp_2 I a sp b dp 106, τ)) := by
  have lp : ∀ k n, n + k = 106 → RR d 210 2 [some (.ref a), some (.int (iN sp)), some (.ref b), some (.int (iN dp)), some (.int (iN n))] [] (cp_2 I a sp b dp n, τ) = some (.inl none, (cp_2 I a sp b dp 106, τ)) := by
    intro k
    induction k with
    | zero =>
      intro n hn
      have hn : n = 106 := hn
      subst hn
      rw [b_210_2]
      simp (disch := omega) only [rd_I_mk, rd_R_mk, rd_L_mk, rd_D_mk, kd_mk, wr_I_mk, cp_mk, gd_true, bd_ret, bd_thr, vl_none, vl_some, iN_add, iN_mul, iN_sub, iN_lt, iN_eq, iN_n, iN_m1, iN_pred, vp_iN, K0_le, nr_b0, nr_b1, m1_lt, lt_m1, iN_ne_m1, m1_ne_iN, not_lt_z, true_and, and_true, and_self, or_true, true_or, or_false, false_or, if_true, if_false, ↓reduceIte, eq_self, up_at, up_a, up_k, cp_c, cp_b, Nat.zero_add, Nat.add_zero, Nat.sub_zero, Nat.le_refl, Nat.add_sub_cancel, fu_at, fu_ne, iN_nz, n10_f, n01_f, ofN, qq_at_100, k110b, Nat.lt_irrefl, Nat.not_lt_zero, ne_eq, not_false_eq_true, not_true_eq_false]
    | succ k ih =>
      intro n hn
      have e : n < 106 := by omega
      have h2 := ih (n + 1) (by omega)
      rw [← cp_step hne e] at h2
      have g1 : (iN n < iN 106) = True := (iN_lt (by omega) (by omega)).trans (eq_true e)
      rw [b_210_2]
      simp only [g1, if_true, iN_add, kd_mk, ha, hb, true_and, rd_I_mk, wr_I_mk, iN_n (a := dp + n) (by omega), iN_n (a := sp + n) (by omega), vp_iN (a := sp + n) (n := na) (by omega) (by omega), vp_iN (a := dp + n) (n := nb) (by omega) (by omega), K0_le hb70, gd_true, b_210_15]
      exact h2
  rw [c_210, b_210_0]
  have h0 : cp_2 I a sp b dp 0 = I := by
    funext c j
    by_cases h1 : c = b
    · subst h1; exact cp_o (by omega)
    · rw [cp_c h1]
  have := lp 106 0 rfl
  rw [h0] at this
  exact this
theorem c_isIn {x lo hi : Int32} : CC d 209 [.int x, .int lo, .int hi] (I, τ) = some (.inl (some (.int (b01 (!(decide (x < lo)) && !(decide (hi < x)))))), (I, τ)) := by
  rw [c_209, b_209_0]
  by_cases h1 : x < lo
  · rw [if_pos h1, decide_eq_true h1, b_209_8, b_209_9, gd_t (of_eq_true nr_b0)]; rfl
  · rw [if_neg h1, decide_eq_false h1]
    by_cases h2 : hi < x
    · rw [if_pos h2, decide_eq_true h2, b_209_8, b_209_9, gd_t (of_eq_true nr_b0)]; rfl
    · rw [if_neg h2, decide_eq_false h2, b_209_9, gd_t (of_eq_true nr_b1)]; rfl
theorem inB_eq {lo hi : Nat} {x : Int32} : (!(decide (x < iN lo)) && !(decide (iN hi < x))) = inB lo hi x := rfl
theorem inN_eq {n : Nat} (hn : n < 1000000) {x : Int32} : (!(decide (x < iN 0)) && !(decide (iN n - iN 1 < x))) = inN n x := by
  unfold inN
  congr 1
  rw [Bool.eq_iff_iff, Bool.not_eq_true', decide_eq_false_iff_not, decide_eq_true_eq, Int32.lt_iff_toInt_lt, Int32.lt_iff_toInt_lt, iN_toInt (by omega)]
  have e : (iN n - iN 1).toInt = (n : Int) - 1 := by
    rw [iN_oi n, iN_oi 1, ← Int32.ofInt_sub, Int32.toInt_ofInt_of_le (by omega) (by omega)]
    omega
  rw [e]
  omega
theorem c_isThrown (hk : tK τ m = (13, 0)) (h70 : 70 ≤ m) {p : Bool} {n : Nat} : CC d 213 [.ref m, .int (b01 p), .int (iN n)] (I, τ) = some (.inl (some (.int (b01 p))), (up_2 I m 7 (if p = true then iN n else iN 0), τ)) := by
  rw [c_213, b_213_0]
  cases p with
  | false =>
    rw [b01_f]
    simp (disch := omega) only [rd_I_mk, rd_R_mk, rd_L_mk, rd_D_mk, kd_mk, wr_I_mk, cp_mk, gd_true, bd_ret, bd_thr, vl_none, vl_some, iN_add, iN_mul, iN_sub, iN_lt, iN_eq, iN_n, iN_m1, iN_pred, vp_iN, K0_le, nr_b0, nr_b1, m1_lt, lt_m1, iN_ne_m1, m1_ne_iN, not_lt_z, true_and, and_true, and_self, or_true, true_or, or_false, false_or, if_true, if_false, ↓reduceIte, eq_self, up_at, up_a, up_k, cp_c, cp_b, Nat.zero_add, Nat.add_zero, Nat.sub_zero, Nat.le_refl, Nat.add_sub_cancel, fu_at, fu_ne, iN_nz, n10_f, n01_f, ofN, qq_at_100, k110b, Nat.lt_irrefl, Nat.not_lt_zero, ne_eq, not_false_eq_true, not_true_eq_false, b_213_6, hk, b_213_7]
    rfl
  | true =>
    rw [b01_t]
    simp (disch := omega) only [rd_I_mk, rd_R_mk, rd_L_mk, rd_D_mk, kd_mk, wr_I_mk, cp_mk, gd_true, bd_ret, bd_thr, vl_none, vl_some, iN_add, iN_mul, iN_sub, iN_lt, iN_eq, iN_n, iN_m1, iN_pred, vp_iN, K0_le, nr_b0, nr_b1, m1_lt, lt_m1, iN_ne_m1, m1_ne_iN, not_lt_z, true_and, and_true, and_self, or_true, true_or, or_false, false_or, if_true, if_false, ↓reduceIte, eq_self, up_at, up_a, up_k, cp_c, cp_b, Nat.zero_add, Nat.add_zero, Nat.sub_zero, Nat.le_refl, Nat.add_sub_cancel, fu_at, fu_ne, iN_nz, n10_f, n01_f, ofN, qq_at_100, k110b, Nat.lt_irrefl, Nat.not_lt_zero, ne_eq, not_false_eq_true, not_true_eq_false, b_213_6, hk, b_213_7]
theorem c_keeps (hL : L_N τ m) : CC (d + 1) 211 [.ref m] (I, τ) = some (.inl none, (up_2 (cp_2 I (m + 1) 0 (m + 2) 0 106) m 7 (iN 0), τ)) := by
  obtain ⟨h0, h1, h2, h3, h4, h5, h6, h7, h8, h9, h10, g1, g2, g3, g4, g5, g6, g7, g8, g9⟩ := hL
  have q := c_copies (d := d) (I := I) g1 g2 (by omega) (sp := 0) (dp := 0) (by omega) (by omega) (by omega) (by omega) (Or.inl (by omega))
  rw [c_211, b_211_0]
  simp (disch := omega) only [rd_I_mk, rd_R_mk, rd_L_mk, rd_D_mk, kd_mk, wr_I_mk, cp_mk, gd_true, bd_ret, bd_thr, vl_none, vl_some, iN_add, iN_mul, iN_sub, iN_lt, iN_eq, iN_n, iN_m1, iN_pred, vp_iN, K0_le, nr_b0, nr_b1, m1_lt, lt_m1, iN_ne_m1, m1_ne_iN, not_lt_z, true_and, and_true, and_self, or_true, true_or, or_false, false_or, if_true, if_false, ↓reduceIte, eq_self, up_at, up_a, up_k, cp_c, cp_b, Nat.zero_add, Nat.add_zero, Nat.sub_zero, Nat.le_refl, Nat.add_sub_cancel, fu_at, fu_ne, iN_nz, n10_f, n01_f, ofN, qq_at_100, k110b, Nat.lt_irrefl, Nat.not_lt_zero, ne_eq, not_false_eq_true, not_true_eq_false, h1, h2, h3, q, b_211_7, b_211_10]
theorem c_ofStatue (hk : tK τ m = (13, 0)) (hr : tR τ m 0 = m + 1) (h1 : tK τ (m + 1) = (100, 106)) {k w : Nat} (hk6 : k < 6) (hw : w < 3) : CC d 214 [.ref m, .int (iN k), .int (iN w)] (I, τ) = some (.inl (some (.int (I (m + 1) (19 + 3 * k + w)))), (I, τ)) := by
  rw [c_214, b_214_0]
  simp (disch := omega) only [rd_I_mk, rd_R_mk, rd_L_mk, rd_D_mk, kd_mk, wr_I_mk, cp_mk, gd_true, bd_ret, bd_thr, vl_none, vl_some, iN_add, iN_mul, iN_sub, iN_lt, iN_eq, iN_n, iN_m1, iN_pred, vp_iN, K0_le, nr_b0, nr_b1, m1_lt, lt_m1, iN_ne_m1, m1_ne_iN, not_lt_z, true_and, and_true, and_self, or_true, true_or, or_false, false_or, if_true, if_false, ↓reduceIte, eq_self, up_at, up_a, up_k, cp_c, cp_b, Nat.zero_add, Nat.add_zero, Nat.sub_zero, Nat.le_refl, Nat.add_sub_cancel, fu_at, fu_ne, iN_nz, n10_f, n01_f, ofN, qq_at_100, k110b, Nat.lt_irrefl, Nat.not_lt_zero, ne_eq, not_false_eq_true, not_true_eq_false, hk, hr, h1]
theorem c_setsStatue (hk : tK τ m = (13, 0)) (h70 : 70 ≤ m) (hr : tR τ m 0 = m + 1) (h1 : tK τ (m + 1) = (100, 106)) {k w : Nat} (hk6 : k < 6) (hw : w < 3) {v : Int32} : CC d 215 [.ref m, .int (iN k), .int (iN w), .int v] (I, τ) = some (.inl none, (up_2 I (m + 1) (19 + 3 * k + w) v, τ)) := by
  rw [c_215, b_215_0]
  simp (disch := omega) only [rd_I_mk, rd_R_mk, rd_L_mk, rd_D_mk, kd_mk, wr_I_mk, cp_mk, gd_true, bd_ret, bd_thr, vl_none, vl_some, iN_add, iN_mul, iN_sub, iN_lt, iN_eq, iN_n, iN_m1, iN_pred, vp_iN, K0_le, nr_b0, nr_b1, m1_lt, lt_m1, iN_ne_m1, m1_ne_iN, not_lt_z, true_and, and_true, and_self, or_true, true_or, or_false, false_or, if_true, if_false, ↓reduceIte, eq_self, up_at, up_a, up_k, cp_c, cp_b, Nat.zero_add, Nat.add_zero, Nat.sub_zero, Nat.le_refl, Nat.add_sub_cancel, fu_at, fu_ne, iN_nz, n10_f, n01_f, ofN, qq_at_100, k110b, Nat.lt_irrefl, Nat.not_lt_zero, ne_eq, not_false_eq_true, not_true_eq_false, hk, hr, h1, b_215_11]
theorem c_of (hk : tK τ m = (13, 0)) (hr : tR τ m 0 = m + 1) (h1 : tK τ (m + 1) = (100, 106)) {k w : Nat} (hk6 : k < 8) (hw : w < 6) : CC d 216 [.ref m, .int (iN k), .int (iN w)] (I, τ) = some (.inl (some (.int (I (m + 1) (37 + 6 * k + w)))), (I, τ)) := by
  rw [c_216, b_216_0]
  simp (disch := omega) only [rd_I_mk, rd_R_mk, rd_L_mk, rd_D_mk, kd_mk, wr_I_mk, cp_mk, gd_true, bd_ret, bd_thr, vl_none, vl_some, iN_add, iN_mul, iN_sub, iN_lt, iN_eq, iN_n, iN_m1, iN_pred, vp_iN, K0_le, nr_b0, nr_b1, m1_lt, lt_m1, iN_ne_m1, m1_ne_iN, not_lt_z, true_and, and_true, and_self, or_true, true_or, or_false, false_or, if_true, if_false, ↓reduceIte, eq_self, up_at, up_a, up_k, cp_c, cp_b, Nat.zero_add, Nat.add_zero, Nat.sub_zero, Nat.le_refl, Nat.add_sub_cancel, fu_at, fu_ne, iN_nz, n10_f, n01_f, ofN, qq_at_100, k110b, Nat.lt_irrefl, Nat.not_lt_zero, ne_eq, not_false_eq_true, not_true_eq_false, hk, hr, h1]
theorem c_sets (hk : tK τ m = (13, 0)) (h70 : 70 ≤ m) (hr : tR τ m 0 = m + 1) (h1 : tK τ (m + 1) = (100, 106)) {k w : Nat} (hk6 : k < 8) (hw : w < 6) {v : Int32} : CC d 217 [.ref m, .int (iN k), .int (iN w), .int v] (I, τ) = some (.inl none, (up_2 I (m + 1) (37 + 6 * k + w) v, τ)) := by
  rw [c_217, b_217_0]
  simp (disch := omega) only [rd_I_mk, rd_R_mk, rd_L_mk, rd_D_mk, kd_mk, wr_I_mk, cp_mk, gd_true, bd_ret, bd_thr, vl_none, vl_some, iN_add, iN_mul, iN_sub, iN_lt, iN_eq, iN_n, iN_m1, iN_pred, vp_iN, K0_le, nr_b0, nr_b1, m1_lt, lt_m1, iN_ne_m1, m1_ne_iN, not_lt_z, true_and, and_true, and_self, or_true, true_or, or_false, false_or, if_true, if_false, ↓reduceIte, eq_self, up_at, up_a, up_k, cp_c, cp_b, Nat.zero_add, Nat.add_zero, Nat.sub_zero, Nat.le_refl, Nat.add_sub_cancel, fu_at, fu_ne, iN_nz, n10_f, n01_f, ofN, qq_at_100, k110b, Nat.lt_irrefl, Nat.not_lt_zero, ne_eq, not_false_eq_true, not_true_eq_false, hk, hr, h1, b_217_11]
theorem c_isPedestal (hL : L_N τ m) (hR : R_F (I (m + 1)) S) (hw : wS B S) (x : Int32) : CC (d + 1) 218 [.ref m, .int x] (I, τ) = some (.inl (some (.int (b01 (inN (p_np (s_P S)) x)))), (I, τ)) := by
  obtain ⟨h0, h1, h2, -, -, -, -, -, -, -, -, g1, -⟩ := hL
  have r8 := hR.2.2.2.2.2.2.2.2.1
  have w1 := hw.2.1.1
  have q := c_isIn (d := d) (I := I) (τ := τ) (x := x) (lo := iN 0) (hi := iN (p_np (s_P S)) - iN 1)
  rw [inN_eq (by omega)] at q
  rw [c_218, b_218_0]
  cases hx : inN (p_np (s_P S)) x with
  | false =>
    rw [hx, b01_f] at q
    simp (disch := omega) only [rd_I_mk, rd_R_mk, rd_L_mk, rd_D_mk, kd_mk, wr_I_mk, cp_mk, gd_true, bd_ret, bd_thr, vl_none, vl_some, iN_add, iN_mul, iN_lt, iN_eq, iN_n, iN_m1, iN_pred, vp_iN, K0_le, nr_b0, nr_b1, m1_lt, lt_m1, iN_ne_m1, m1_ne_iN, not_lt_z, true_and, and_true, and_self, or_true, true_or, or_false, false_or, if_true, if_false, ↓reduceIte, eq_self, up_at, up_a, up_k, cp_c, cp_b, Nat.zero_add, Nat.add_zero, Nat.sub_zero, Nat.le_refl, Nat.add_sub_cancel, fu_at, fu_ne, iN_nz, n10_f, n01_f, ofN, qq_at_100, k110b, Nat.lt_irrefl, Nat.not_lt_zero, ne_eq, not_false_eq_true, not_true_eq_false, h1, h2, g1, r8, q, b_218_9, b01_f]
  | true =>
    rw [hx, b01_t] at q
    simp (disch := omega) only [rd_I_mk, rd_R_mk, rd_L_mk, rd_D_mk, kd_mk, wr_I_mk, cp_mk, gd_true, bd_ret, bd_thr, vl_none, vl_some, iN_add, iN_mul, iN_lt, iN_eq, iN_n, iN_m1, iN_pred, vp_iN, K0_le, nr_b0, nr_b1, m1_lt, lt_m1, iN_ne_m1, m1_ne_iN, not_lt_z, true_and, and_true, and_self, or_true, true_or, or_false, false_or, if_true, if_false, ↓reduceIte, eq_self, up_at, up_a, up_k, cp_c, cp_b, Nat.zero_add, Nat.add_zero, Nat.sub_zero, Nat.le_refl, Nat.add_sub_cancel, fu_at, fu_ne, iN_nz, n10_f, n01_f, ofN, qq_at_100, k110b, Nat.lt_irrefl, Nat.not_lt_zero, ne_eq, not_false_eq_true, not_true_eq_false, h1, h2, g1, r8, q, b_218_9, b01_t]
theorem c_isStatue (hL : L_N τ m) (hR : R_F (I (m + 1)) S) (hw : wS B S) (x : Int32) : CC (d + 1) 219 [.ref m, .int x] (I, τ) = some (.inl (some (.int (b01 (inN (p_ns (s_P S)) x)))), (I, τ)) := by
  obtain ⟨h0, h1, h2, -, -, -, -, -, -, -, -, g1, -⟩ := hL
  have r9 := hR.2.2.2.2.2.2.2.2.2.1
  have w1 := hw.2.1.2.1
  have q := c_isIn (d := d) (I := I) (τ := τ) (x := x) (lo := iN 0) (hi := iN (p_ns (s_P S)) - iN 1)
  rw [inN_eq (by omega)] at q
  rw [c_219, b_219_0]
  cases hx : inN (p_ns (s_P S)) x with
  | false =>
    rw [hx, b01_f] at q
    simp (disch := omega) only [rd_I_mk, rd_R_mk, rd_L_mk, rd_D_mk, kd_mk, wr_I_mk, cp_mk, gd_true, bd_ret, bd_thr, vl_none, vl_some, iN_add, iN_mul, iN_lt, iN_eq, iN_n, iN_m1, iN_pred, vp_iN, K0_le, nr_b0, nr_b1, m1_lt, lt_m1, iN_ne_m1, m1_ne_iN, not_lt_z, true_and, and_true, and_self, or_true, true_or, or_false, false_or, if_true, if_false, ↓reduceIte, eq_self, up_at, up_a, up_k, cp_c, cp_b, Nat.zero_add, Nat.add_zero, Nat.sub_zero, Nat.le_refl, Nat.add_sub_cancel, fu_at, fu_ne, iN_nz, n10_f, n01_f, ofN, qq_at_100, k110b, Nat.lt_irrefl, Nat.not_lt_zero, ne_eq, not_false_eq_true, not_true_eq_false, h1, h2, g1, r9, q, b_219_9, b01_f]
  | true =>
    rw [hx, b01_t] at q
    simp (disch := omega) only [rd_I_mk, rd_R_mk, rd_L_mk, rd_D_mk, kd_mk, wr_I_mk, cp_mk, gd_true, bd_ret, bd_thr, vl_none, vl_some, iN_add, iN_mul, iN_lt, iN_eq, iN_n, iN_m1, iN_pred, vp_iN, K0_le, nr_b0, nr_b1, m1_lt, lt_m1, iN_ne_m1, m1_ne_iN, not_lt_z, true_and, and_true, and_self, or_true, true_or, or_false, false_or, if_true, if_false, ↓reduceIte, eq_self, up_at, up_a, up_k, cp_c, cp_b, Nat.zero_add, Nat.add_zero, Nat.sub_zero, Nat.le_refl, Nat.add_sub_cancel, fu_at, fu_ne, iN_nz, n10_f, n01_f, ofN, qq_at_100, k110b, Nat.lt_irrefl, Nat.not_lt_zero, ne_eq, not_false_eq_true, not_true_eq_false, h1, h2, g1, r9, q, b_219_9, b01_t]
theorem c_at (hL : L_N τ m) (hR : R_F (I (m + 1)) S) (hw : wS B S) (x : Int32) : CC (d + 1) 220 [.ref m, .int x] (I, τ) = some (.inl (some (.int (oN (fiX (s_U S) x)))), (I, τ)) := by
  obtain ⟨h0, h1, h2, -, -, -, -, -, -, -, -, g1, -⟩ := hL
  have r10 := hR.2.2.2.2.2.2.2.2.2.2.1
  have w3 := hw.2.2.1.1
  have lp : ∀ n k, k + n = un (s_U S) → RR (d + 1) 220 2 [some (.ref m), some (.int x), some (.int (iN k))] [] (I, τ) = some (.inl (some (.int (oN (ff (fun k => iN (w_id (ug (s_U S) k)) == x) k n)))), (I, τ)) := by
    intro n
    induction n with
    | zero =>
      intro k hk
      have hk : k = un (s_U S) := hk
      have e : (iN k < iN (un (s_U S))) = False := (iN_lt (by omega) (by omega)).trans (eq_false (by omega))
      rw [b_220_2]
      simp (disch := omega) only [rd_I_mk, rd_R_mk, rd_L_mk, rd_D_mk, kd_mk, wr_I_mk, cp_mk, gd_true, bd_ret, bd_thr, vl_none, vl_some, iN_add, iN_mul, iN_sub, iN_lt, iN_eq, iN_n, iN_m1, iN_pred, vp_iN, K0_le, nr_b0, nr_b1, m1_lt, lt_m1, iN_ne_m1, m1_ne_iN, not_lt_z, true_and, and_true, and_self, or_true, true_or, or_false, false_or, if_true, if_false, ↓reduceIte, eq_self, up_at, up_a, up_k, cp_c, cp_b, Nat.zero_add, Nat.add_zero, Nat.sub_zero, Nat.le_refl, Nat.add_sub_cancel, fu_at, fu_ne, iN_nz, n10_f, n01_f, ofN, qq_at_100, k110b, Nat.lt_irrefl, Nat.not_lt_zero, ne_eq, not_false_eq_true, not_true_eq_false, h1, h2, g1, r10, e, ff, oN]
    | succ n ih =>
      intro k hk
      have e : k < un (s_U S) := by omega
      have r := (hR.2.2.2.2.2.2.2.2.2.2.2.2.2.1 k e).1
      have q : CC d 216 [.ref m, .int (iN k), .int (iN 0)] (I, τ) = some (.inl (some (.int (I (m + 1) (37 + 6 * k)))), (I, τ)) := c_of (d := d) (I := I) h1 h2 g1 (k := k) (w := 0) (by omega) (by omega)
      rw [r] at q
      rw [b_220_2]
      by_cases z : iN (w_id (ug (s_U S) k)) = x
      · rw [ff_y (by exact beq_iff_eq.mpr z)]
        simp (disch := omega) only [rd_I_mk, rd_R_mk, rd_L_mk, rd_D_mk, kd_mk, wr_I_mk, cp_mk, gd_true, bd_ret, bd_thr, vl_none, vl_some, iN_add, iN_mul, iN_sub, iN_lt, iN_eq, iN_n, iN_m1, iN_pred, vp_iN, K0_le, nr_b0, nr_b1, m1_lt, lt_m1, iN_ne_m1, m1_ne_iN, not_lt_z, true_and, and_true, and_self, or_true, true_or, or_false, false_or, if_true, if_false, ↓reduceIte, eq_self, up_at, up_a, up_k, cp_c, cp_b, Nat.zero_add, Nat.add_zero, Nat.sub_zero, Nat.le_refl, Nat.add_sub_cancel, fu_at, fu_ne, iN_nz, n10_f, n01_f, ofN, qq_at_100, k110b, Nat.lt_irrefl, Nat.not_lt_zero, ne_eq, not_false_eq_true, not_true_eq_false, h1, h2, g1, r10, e, q, b_220_12]
        simp only [z, if_true]
        rfl
      · rw [ff_n (by rw [beq_iff_eq]; exact z)]
        simp (disch := omega) only [rd_I_mk, rd_R_mk, rd_L_mk, rd_D_mk, kd_mk, wr_I_mk, cp_mk, gd_true, bd_ret, bd_thr, vl_none, vl_some, iN_add, iN_mul, iN_sub, iN_lt, iN_eq, iN_n, iN_m1, iN_pred, vp_iN, K0_le, nr_b0, nr_b1, m1_lt, lt_m1, iN_ne_m1, m1_ne_iN, not_lt_z, true_and, and_true, and_self, or_true, true_or, or_false, false_or, if_true, if_false, ↓reduceIte, eq_self, up_at, up_a, up_k, cp_c, cp_b, Nat.zero_add, Nat.add_zero, Nat.sub_zero, Nat.le_refl, Nat.add_sub_cancel, fu_at, fu_ne, iN_nz, n10_f, n01_f, ofN, qq_at_100, k110b, Nat.lt_irrefl, Nat.not_lt_zero, ne_eq, not_false_eq_true, not_true_eq_false, h1, h2, g1, r10, e, q, b_220_12]
        simp only [z, if_false]
        exact ih (k + 1) (by omega)
  rw [c_220, b_220_0]
  exact lp (un (s_U S)) 0 (Nat.zero_add _)
theorem c_on (hL : L_N τ m) (hR : R_F (I (m + 1)) S) (hw : wS B S) {x : Nat} (hx : x < 100) : CC (d + 1) 221 [.ref m, .int (iN x)] (I, τ) = some (.inl (some (.int (oN (onP (s_P S) x)))), (I, τ)) := by
  obtain ⟨h0, h1, h2, -, -, -, -, -, -, -, -, g1, -⟩ := hL
  have r9 := hR.2.2.2.2.2.2.2.2.2.1
  have w2 := hw.2.1.2.1
  have w1 := hw.2.1.1
  have lp : ∀ n k, k + n = p_ns (s_P S) → RR (d + 1) 221 2 [some (.ref m), some (.int (iN x)), some (.int (iN k))] [] (I, τ) = some (.inl (some (.int (oN (ff (fun k => p_pl (s_P S) k == x) k n)))), (I, τ)) := by
    intro n
    induction n with
    | zero =>
      intro k hk
      have hk : k = p_ns (s_P S) := hk
      have e : (iN k < iN (p_ns (s_P S))) = False := (iN_lt (by omega) (by omega)).trans (eq_false (by omega))
      rw [b_221_2]
      simp (disch := omega) only [rd_I_mk, rd_R_mk, rd_L_mk, rd_D_mk, kd_mk, wr_I_mk, cp_mk, gd_true, bd_ret, bd_thr, vl_none, vl_some, iN_add, iN_mul, iN_sub, iN_lt, iN_eq, iN_n, iN_m1, iN_pred, vp_iN, K0_le, nr_b0, nr_b1, m1_lt, lt_m1, iN_ne_m1, m1_ne_iN, not_lt_z, true_and, and_true, and_self, or_true, true_or, or_false, false_or, if_true, if_false, ↓reduceIte, eq_self, up_at, up_a, up_k, cp_c, cp_b, Nat.zero_add, Nat.add_zero, Nat.sub_zero, Nat.le_refl, Nat.add_sub_cancel, fu_at, fu_ne, iN_nz, n10_f, n01_f, ofN, qq_at_100, k110b, Nat.lt_irrefl, Nat.not_lt_zero, ne_eq, not_false_eq_true, not_true_eq_false, h1, h2, g1, r9, e, ff, oN]
    | succ n ih =>
      intro k hk
      have e : k < p_ns (s_P S) := by omega
      have r := (hR.2.2.2.2.2.2.2.2.2.2.2.2.1 k e).1
      have hp := (hw.2.1.2.2.2.1 k e).2.2.1
      have q : CC d 214 [.ref m, .int (iN k), .int (iN 0)] (I, τ) = some (.inl (some (.int (I (m + 1) (19 + 3 * k)))), (I, τ)) := c_ofStatue (d := d) (I := I) h1 h2 g1 (k := k) (w := 0) (by omega) (by omega)
      rw [r] at q
      rw [b_221_2]
      by_cases z : p_pl (s_P S) k = x
      · rw [ff_y (by exact beq_iff_eq.mpr z)]
        simp (disch := omega) only [rd_I_mk, rd_R_mk, rd_L_mk, rd_D_mk, kd_mk, wr_I_mk, cp_mk, gd_true, bd_ret, bd_thr, vl_none, vl_some, iN_add, iN_mul, iN_sub, iN_lt, iN_eq, iN_n, iN_m1, iN_pred, vp_iN, K0_le, nr_b0, nr_b1, m1_lt, lt_m1, iN_ne_m1, m1_ne_iN, not_lt_z, true_and, and_true, and_self, or_true, true_or, or_false, false_or, if_true, if_false, ↓reduceIte, eq_self, up_at, up_a, up_k, cp_c, cp_b, Nat.zero_add, Nat.add_zero, Nat.sub_zero, Nat.le_refl, Nat.add_sub_cancel, fu_at, fu_ne, iN_nz, n10_f, n01_f, ofN, qq_at_100, k110b, Nat.lt_irrefl, Nat.not_lt_zero, ne_eq, not_false_eq_true, not_true_eq_false, h1, h2, g1, r9, e, q, b_221_12, z]
        rfl
      · rw [ff_n (by rw [beq_iff_eq]; exact z)]
        simp (disch := omega) only [rd_I_mk, rd_R_mk, rd_L_mk, rd_D_mk, kd_mk, wr_I_mk, cp_mk, gd_true, bd_ret, bd_thr, vl_none, vl_some, iN_add, iN_mul, iN_sub, iN_lt, iN_eq, iN_n, iN_m1, iN_pred, vp_iN, K0_le, nr_b0, nr_b1, m1_lt, lt_m1, iN_ne_m1, m1_ne_iN, not_lt_z, true_and, and_true, and_self, or_true, true_or, or_false, false_or, if_true, if_false, ↓reduceIte, eq_self, up_at, up_a, up_k, cp_c, cp_b, Nat.zero_add, Nat.add_zero, Nat.sub_zero, Nat.le_refl, Nat.add_sub_cancel, fu_at, fu_ne, iN_nz, n10_f, n01_f, ofN, qq_at_100, k110b, Nat.lt_irrefl, Nat.not_lt_zero, ne_eq, not_false_eq_true, not_true_eq_false, h1, h2, g1, r9, e, q, b_221_12, z]
        exact ih (k + 1) (by omega)
  rw [c_221, b_221_0]
  exact lp (p_ns (s_P S)) 0 (Nat.zero_add _)
end MO
