/-! PAYING BAIL, HOLDING A HEARING -/
theorem mo_ok {g : Nat → Nat} {wt a v : Nat} : ∀ K, (∃ k, k ≤ K ∧ v = g (a - k * wt) + k) → g (a - mo g wt a v K * wt) + mo g wt a v K = v := by
  intro K
  induction K with
  | zero =>
    rintro ⟨k, hk, h⟩
    rw [show k = 0 by omega] at h
    exact h.symm
  | succ K ih =>
    rintro ⟨k, hk, h⟩
    rw [mo]
    by_cases q : g (a - (K + 1) * wt) + (K + 1) = v
    · rw [if_pos q]; exact q
    · rw [if_neg q]
      have hk2 : k ≠ K + 1 := fun e => q (by rw [h, e])
      exact ih ⟨k, by omega, h⟩
theorem tk_fw {bl : Nat → Nat} {w a : Nat} : fw bl w (a - tk bl w a * (w + 1)) + tk bl w a = fw bl (w + 1) a := by
  obtain ⟨k, h1, h2⟩ := fmn_ex (g := fw bl w) (wt := w + 1) (a := a) (min (bl (w + 1)) (a / (w + 1)))
  unfold tk
  exact mo_ok _ ⟨k, h1, h2⟩
theorem tka_le {bl : Nat → Nat} : ∀ w a b v, tka bl w a b v ≤ b v := by
  intro w
  induction w with
  | zero => intro a b v; exact Nat.le_refl _
  | succ w ih =>
    intro a b v
    rw [tka]
    refine Nat.le_trans (ih _ _ v) ?_
    by_cases e : v = w + 1
    · rw [e, fu_at]; exact Nat.sub_le _ _
    · rw [fu_ne e]; exact Nat.le_refl _
theorem tka_sum {bl : Nat → Nat} : ∀ w a b, w ≤ 20 → fw bl w a ≠ 1000 → (∀ v, v ≤ w → b v = bl v) → sA (fun v => iN (tka bl w a b v)) 20 + iN a = sA (fun v => iN (b v)) 20 := by
  intro w
  induction w with
  | zero =>
    intro a b _ h _
    rw [fw] at h
    have ha : a = 0 := by
      by_cases e : a = 0
      · exact e
      · rw [if_neg e] at h; exact absurd rfl h
    rw [ha, tka]
    exact Int32.add_zero _
  | succ w ih =>
    intro a b hw h hb
    have h1 := @tk_fw bl w a
    have h2 := @fw_le bl (w + 1) a
    have h3 := @tk_le bl w a
    have hbw := hb (w + 1) (Nat.le_refl _)
    rw [tka]
    have h4 := ih (a - tk bl w a * (w + 1)) (fu b (w + 1) (b (w + 1) - tk bl w a)) (by omega) (by omega) (fun v hv => by rw [fu_ne (by omega)]; exact hb v (by omega))
    have h5 := sA_fu (f := fun v => iN (fu b (w + 1) (b (w + 1) - tk bl w a) v)) (w := w + 1) (c := iN (tk bl w a)) 20 (by omega) hw
    have h6 : fu (fun v => iN (fu b (w + 1) (b (w + 1) - tk bl w a) v)) (w + 1) (iN (fu b (w + 1) (b (w + 1) - tk bl w a) (w + 1)) + iN (tk bl w a)) = fun v => iN (b v) := by
      funext v
      by_cases e : v = w + 1
      · rw [e, fu_at, fu_at, iN_add, Nat.sub_add_cancel (by omega)]
      · rw [fu_ne e, fu_ne e]
    rw [h6] at h5
    rw [h5, ← h4, Int32.add_assoc, iN_mul, iN_add]
    congr 2
    rw [Nat.mul_comm (w + 1)]
    omega
def su_pay (U : sU) (k : Nat) : sU := (U.1.set k (w_id (ug U k), w_of (ug U k), w_la (ug U k), w_ba (ug U k), 1, w_ca (ug U k)), U.2)
theorem un_pay {U : sU} {k : Nat} : un (su_pay U k) = un U := by
  unfold un su_pay; rw [List.length_set]
theorem ug_pay {U : sU} {k i : Nat} (hk : k < un U) : ug (su_pay U k) i = if i = k then (w_id (ug U k), w_of (ug U k), w_la (ug U k), w_ba (ug U k), 1, w_ca (ug U k)) else ug U i := by
  have hk : k < U.1.length := hk
  show (U.1.set k _).getD i w0 = _
  rw [List.getD_eq_getElem?_getD, List.getElem?_set]
  by_cases e : i = k
  · rw [if_pos e, if_pos e.symm, if_pos hk]; rfl
  · rw [if_neg e, if_neg (fun z => e z.symm), ← List.getD_eq_getElem?_getD]; rfl
theorem pay_same {U : sU} {k i : Nat} (hk : k < un U) : w_id (ug (su_pay U k) i) = w_id (ug U i) ∧ w_of (ug (su_pay U k) i) = w_of (ug U i) ∧ w_la (ug (su_pay U k) i) = w_la (ug U i) ∧ w_ba (ug (su_pay U k) i) = w_ba (ug U i) ∧ w_ca (ug (su_pay U k) i) = w_ca (ug U i) := by
  rw [ug_pay hk]
  by_cases e : i = k
  · rw [if_pos e, e]; exact ⟨rfl, rfl, rfl, rfl, rfl⟩
  · rw [if_neg e]; exact ⟨rfl, rfl, rfl, rfl, rfl⟩
/-- the state behind a paid bail -/
def paS (S : sS) (k : Nat) : sS := (s_P S, su_pay (s_U S) k, (tka (m_bl (s_M S)) 20 (w_ba (ug (s_U S) k)) (m_bl (s_M S)), m_tr (s_M S) + iN (w_ba (ug (s_U S) k)), m_ad (s_M S)), s_N S)
theorem wU_pay {U : sU} (hw : wU U) {k : Nat} (hk : k < un U) : wU (su_pay U k) := by
  obtain ⟨w1, w2, w3, w4⟩ := hw
  refine ⟨by rw [un_pay]; exact w1, w2, fun i j hij hj => ?_, fun i hi => ?_⟩
  · rw [un_pay] at hj
    rw [(pay_same hk).1, (pay_same hk).1]; exact w3 i j hij hj
  · rw [un_pay] at hi
    obtain ⟨p1, p2, p3, p4, p5⟩ := @pay_same U k i hk
    obtain ⟨q1, q2, q3, q4, q5, q6, q7⟩ := w4 i hi
    rw [p1, p2, p3, p4, p5]
    refine ⟨q1, q2, q3, q4, ?_, q6, ?_⟩
    · rw [ug_pay hk]
      by_cases e : i = k
      · rw [if_pos e]; exact Nat.le_refl _
      · rw [if_neg e]; exact q5
    · rcases q7 with q7 | ⟨j, h1, h2⟩
      · exact Or.inl q7
      · exact Or.inr ⟨j, h1, by rw [(pay_same hk).1]; exact h2⟩
theorem tr_pay {t x y a s : Int32} (h : t + s = a) (h2 : x + y = s) : t + y + x = a := by
  rw [← h, ← h2, Int32.add_assoc, Int32.add_comm y x]
theorem wS_pay {B : Nat} {S : sS} (hw : wS B S) {k : Nat} (hk : k < un (s_U S)) (hf : fw (m_bl (s_M S)) 20 (w_ba (ug (s_U S) k)) ≠ 1000) : wS B (paS S k) := by
  obtain ⟨q1, q2, q3, q4, q5, q6, q7, q8, q9⟩ := hw
  refine ⟨q1, q2, wU_pay q3 hk, q4, q5, fun i hi => ?_, fun w hw => ?_, q8, ?_⟩
  · have hi : i < un (su_pay (s_U S) k) := hi
    rw [un_pay] at hi
    obtain ⟨p1, p2, p3, p4, p5⟩ := @pay_same (s_U S) k i hk
    show w_of (ug (su_pay (s_U S) k) i) < _ ∧ w_la (ug (su_pay (s_U S) k) i) ≤ _
    rw [p2, p3]
    exact q6 i hi
  · show tka (m_bl (s_M S)) 20 _ (m_bl (s_M S)) w + 60 * un (su_pay (s_U S) k) ≤ B
    rw [un_pay]
    have := @tka_le (m_bl (s_M S)) 20 (w_ba (ug (s_U S) k)) (m_bl (s_M S)) w
    have := q7 w hw
    omega
  · exact tr_pay q9 (tka_sum 20 _ _ (Nat.le_refl _) hf (fun _ _ => rfl))
theorem far1 {a b t : Nat} (h : b + 17 ≤ t ∨ t + 24 ≤ b) (h1 : b ≤ a) (h2 : a < b + 17) : a < t + 2 ∨ t + 23 ≤ a := by omega
section PY
variable {d : Nat} {I : qq_I} {τ : qq_R} {b t : Nat} {S : sS} {B : Nat}
theorem c_payFault (hL : L_R τ b) (hT : L_T τ t) (hne : b + 17 ≤ t ∨ t + 24 ≤ b) (hR : R_R I b S) (hw : wS B S) (x : Int32) :
    ∃ I', CC (d + 2) 85 [.ref b, .int x, .ref t] (I, τ) = some (.inl (some (.int (iN (ft_pay S x)))), (I', τ)) ∧ Fr (t + 2) 21 I I' := by
  have f3 := c_find (d := d + 1) hL.2.2.2.2.2.2.1 hR.2.1 hw.2.2.1 x
  have hm := wS_M hw
  obtain ⟨hb70, k0, k1, k2, k3, lp, lw, lm⟩ := hL
  have l2 := lw.2.1
  have l3 := lm.2.1
  have m0 := lm.2.2.1
  have m1k := lm.2.2.2.2.1
  have k5 := lw.2.2.2.2.2.1
  have k7 := lw.2.2.2.2.2.2.2.1
  have q4 := lw.2.2.2.2.2.2.2.2.2.2.2.1
  have q6 := lw.2.2.2.2.2.2.2.2.2.2.2.2.2
  have t0 := hT.2.1
  obtain ⟨h1, h2, h3, h4, h5, h6, h7, h8⟩ := hR
  unfold ft_pay
  cases hc : fiX (s_U S) x with
  | none =>
    rw [hc] at f3
    refine ⟨I, ?_, Fr_rf⟩
    rw [c_85, b_85_0]
    simp (disch := omega) only [rd_I_mk, rd_R_mk, rd_L_mk, rd_D_mk, kd_mk, wr_I_mk, cp_mk, gd_true, bd_ret, bd_thr, vl_none, vl_some, iN_add, iN_mul, iN_sub, iN_lt, iN_eq, iN_n, iN_m1, iN_pred, vp_iN, K0_le, nr_b0, nr_b1, m1_lt, lt_m1, iN_ne_m1, m1_ne_iN, not_lt_z, true_and, and_true, and_self, or_true, true_or, or_false, false_or, if_true, if_false, ↓reduceIte, eq_self, up_at, up_a, up_k, cp_c, cp_b, Nat.zero_add, Nat.add_zero, Nat.sub_zero, Nat.le_refl, Nat.add_sub_cancel, fu_at, fu_ne, iN_nz, n10_f, n01_f, ofN, qq_at_100, k110b, Nat.lt_irrefl, Nat.not_lt_zero, ne_eq, not_false_eq_true, not_true_eq_false, k0, k2, l2, f3, oN, b_85_4, nr_ch]
  | some k =>
    have hk := fiX_lt hc
    rw [hc] at f3
    have w1 := hw.2.2.1.1
    have e4 := hw.2.2.1.2.2.2 k hk
    have e41 := e4.2.2.2.1
    have e42 := e4.2.2.2.2.1
    have r7 := h2.2.2.2.2.2.2.2 k hk
    have r5 := h2.2.2.2.2.2.1 k hk
    show ∃ I', CC (d + 2) 85 [.ref b, .int x, .ref t] (I, τ) = some (.inl (some (.int (iN (if w_pd (ug (s_U S) k) = 0 then (if fw (m_bl (s_M S)) 20 (w_ba (ug (s_U S) k)) = 1000 then 117 else 45) else 115)))), (I', τ)) ∧ Fr (t + 2) 21 I I'
    by_cases q : w_pd (ug (s_U S) k) = 0
    · rw [if_pos q]
      obtain ⟨J, s1, s2, s3⟩ := c_fillTable (d := d) hT (s := b + 15) m1k (by omega) h3.1 hm
      have f4 := c_fewestByTable (d := d + 1) (I := J) (bl := m_bl (s_M S)) hT s2 (a := w_ba (ug (s_U S) k)) e41
      have e5 : J (b + 7 + 4) k = iN (w_ba (ug (s_U S) k)) := by rw [s3 _ (by omega)]; exact r5
      have hfl := @fw_le (m_bl (s_M S)) 20 (w_ba (ug (s_U S) k))
      refine ⟨J, ?_, s3⟩
      rw [c_85, b_85_0]
      by_cases q2 : fw (m_bl (s_M S)) 20 (w_ba (ug (s_U S) k)) = 1000
      · rw [if_pos q2]
        rw [q2] at f4
        simp (disch := omega) only [rd_I_mk, rd_R_mk, rd_L_mk, rd_D_mk, kd_mk, wr_I_mk, cp_mk, gd_true, bd_ret, bd_thr, vl_none, vl_some, iN_add, iN_mul, iN_sub, iN_lt, iN_eq, iN_n, iN_m1, iN_pred, vp_iN, K0_le, nr_b0, nr_b1, m1_lt, lt_m1, iN_ne_m1, m1_ne_iN, not_lt_z, true_and, and_true, and_self, or_true, true_or, or_false, false_or, if_true, if_false, ↓reduceIte, eq_self, up_at, up_a, up_k, cp_c, cp_b, Nat.zero_add, Nat.add_zero, Nat.sub_zero, Nat.le_refl, Nat.add_sub_cancel, fu_at, fu_ne, iN_nz, n10_f, n01_f, ofN, qq_at_100, k110b, Nat.lt_irrefl, Nat.not_lt_zero, ne_eq, not_false_eq_true, not_true_eq_false, k0, k2, l2, f3, oN, b_85_4, k7, q6, r7, q, k3, l3, t0, m0, s1, b_85_23, k5, q4, e5, f4, b_85_30, b_85_35, nr_ch]
      · rw [if_neg q2]
        simp (disch := omega) only [rd_I_mk, rd_R_mk, rd_L_mk, rd_D_mk, kd_mk, wr_I_mk, cp_mk, gd_true, bd_ret, bd_thr, vl_none, vl_some, iN_add, iN_mul, iN_sub, iN_lt, iN_eq, iN_n, iN_m1, iN_pred, vp_iN, K0_le, nr_b0, nr_b1, m1_lt, lt_m1, iN_ne_m1, m1_ne_iN, not_lt_z, true_and, and_true, and_self, or_true, true_or, or_false, false_or, if_true, if_false, ↓reduceIte, eq_self, up_at, up_a, up_k, cp_c, cp_b, Nat.zero_add, Nat.add_zero, Nat.sub_zero, Nat.le_refl, Nat.add_sub_cancel, fu_at, fu_ne, iN_nz, n10_f, n01_f, ofN, qq_at_100, k110b, Nat.lt_irrefl, Nat.not_lt_zero, ne_eq, not_false_eq_true, not_true_eq_false, k0, k2, l2, f3, oN, b_85_4, k7, q6, r7, q, k3, l3, t0, m0, s1, b_85_23, k5, q4, e5, f4, b_85_30, q2, b_85_35, nr_ch]
    · rw [if_neg q]
      have q1 : w_pd (ug (s_U S) k) = 1 := by omega
      refine ⟨I, ?_, Fr_rf⟩
      rw [c_85, b_85_0]
      simp (disch := omega) only [rd_I_mk, rd_R_mk, rd_L_mk, rd_D_mk, kd_mk, wr_I_mk, cp_mk, gd_true, bd_ret, bd_thr, vl_none, vl_some, iN_add, iN_mul, iN_sub, iN_lt, iN_eq, iN_n, iN_m1, iN_pred, vp_iN, K0_le, nr_b0, nr_b1, m1_lt, lt_m1, iN_ne_m1, m1_ne_iN, not_lt_z, true_and, and_true, and_self, or_true, true_or, or_false, false_or, if_true, if_false, ↓reduceIte, eq_self, up_at, up_a, up_k, cp_c, cp_b, Nat.zero_add, Nat.add_zero, Nat.sub_zero, Nat.le_refl, Nat.add_sub_cancel, fu_at, fu_ne, iN_nz, n10_f, n01_f, ofN, qq_at_100, k110b, Nat.lt_irrefl, Nat.not_lt_zero, ne_eq, not_false_eq_true, not_true_eq_false, k0, k2, l2, f3, oN, b_85_4, k7, q6, r7, q1, nr_ch]
theorem c_settleBail (hL : L_R τ b) (hT : L_T τ t) (hne : b + 17 ≤ t ∨ t + 24 ≤ b) (hR : R_R I b S) (hw : wS B S) {x : Int32} {k : Nat} (hc : fiX (s_U S) x = some k) :
    ∃ I', CC (d + 2) 86 [.ref b, .int x, .ref t] (I, τ) = some (.inl (some (.int (iN (fw (m_bl (s_M S)) 20 (w_ba (ug (s_U S) k)))))), (I', τ)) ∧ R_R I' b (paS S k) ∧ (∀ a, (a < b ∨ b + 17 ≤ a) → (a < t + 2 ∨ t + 23 ≤ a) → I' a = I a) := by
  have f3 := c_find (d := d + 1) hL.2.2.2.2.2.2.1 hR.2.1 hw.2.2.1 x
  rw [hc] at f3
  have hm := wS_M hw
  obtain ⟨hb70, k0, k1, k2, k3, lp, lw, lm⟩ := hL
  have l2 := lw.2.1
  have l3 := lm.2.1
  have m0 := lm.2.2.1
  have m1k := lm.2.2.2.2.1
  have k5 := lw.2.2.2.2.2.1
  have k7 := lw.2.2.2.2.2.2.2.1
  have q4 := lw.2.2.2.2.2.2.2.2.2.2.2.1
  have q6 := lw.2.2.2.2.2.2.2.2.2.2.2.2.2
  have t0 := hT.2.1
  obtain ⟨h1, h2, h3, h4, h5, h6, h7, h8⟩ := hR
  have hk := fiX_lt hc
  have w1 := hw.2.2.1.1
  have e4 := hw.2.2.1.2.2.2 k hk
  have e41 := e4.2.2.2.1
  have e42 := e4.2.2.2.2.1
  have r7 := h2.2.2.2.2.2.2.2 k hk
  have r5 := h2.2.2.2.2.2.1 k hk
  have hS := h3.1
  have r32 := h3.2.1
  obtain ⟨J, s1, s2, s3⟩ := c_fillTable (d := d) hT (s := b + 15) m1k (by omega) hS hm
  have hS2 : ∀ w, w < 21 → J (b + 14 + 1) w = iN (m_bl (s_M S) w) := fun w hw => by rw [s3 _ (by omega)]; exact hS w hw
  obtain ⟨K, u1, u2, u3⟩ := c_takeBlocks (d := d) hT (s := b + 15) m1k (by omega) (by omega) s2 hS2 hm (a := w_ba (ug (s_U S) k)) e41
  have kb : ∀ a, (a < t + 2 ∨ t + 23 ≤ a) → a ≠ b + 15 → K a = I a := fun a ha hb => by rw [u3 a hb, s3 a (by omega)]
  have e5 : I (b + 7 + 4) k = iN (w_ba (ug (s_U S) k)) := r5
  have e14 : K (b + 14) 2 = m_tr (s_M S) := by rw [kb _ (by omega) (by omega)]; exact r32
  have f4 := c_fewestByTable (d := d + 1) (τ := τ) (I := up_2 (up_2 K (b + 14) 2 (m_tr (s_M S) + iN (w_ba (ug (s_U S) k)))) (b + 7 + 6) k (iN 1)) (bl := m_bl (s_M S)) hT (fun w a hw ha => by
    rw [up_a (by omega), up_a (by omega), u3 _ (by omega)]; exact s2 w a hw ha) (a := w_ba (ug (s_U S) k)) e41
  refine ⟨up_2 (up_2 K (b + 14) 2 (m_tr (s_M S) + iN (w_ba (ug (s_U S) k)))) (b + 7 + 6) k (iN 1), ?_, ?_, ?_⟩
  · rw [c_86, b_86_0]
    simp (disch := omega) only [rd_I_mk, rd_R_mk, rd_L_mk, rd_D_mk, kd_mk, wr_I_mk, cp_mk, gd_true, bd_ret, bd_thr, vl_none, vl_some, iN_add, iN_mul, iN_sub, iN_lt, iN_eq, iN_n, iN_m1, iN_pred, vp_iN, K0_le, nr_b0, nr_b1, m1_lt, lt_m1, iN_ne_m1, m1_ne_iN, not_lt_z, true_and, and_true, and_self, or_true, true_or, or_false, false_or, if_true, if_false, ↓reduceIte, eq_self, up_at, up_a, up_k, cp_c, cp_b, Nat.zero_add, Nat.add_zero, Nat.sub_zero, Nat.le_refl, Nat.add_sub_cancel, fu_at, fu_ne, iN_nz, n10_f, n01_f, ofN, qq_at_100, k110b, Nat.lt_irrefl, Nat.not_lt_zero, ne_eq, not_false_eq_true, not_true_eq_false, k0, k2, l2, f3, oN, b_86_4, k5, q4, e5, k3, l3, t0, m0, s1, b_86_21, u1, b_86_27, e14, b_86_34, k7, q6, vn_b1, b_86_40, f4, b_86_43]
  · have g : ∀ a, b ≤ a → a < b + 17 → a ≠ b + 14 → a ≠ b + 15 → a ≠ b + 7 + 6 → ∀ i, up_2 (up_2 K (b + 14) 2 (m_tr (s_M S) + iN (w_ba (ug (s_U S) k)))) (b + 7 + 6) k (iN 1) a i = I a i := fun a ha1 ha2 ha3 ha4 ha5 i => by
      rw [up_a (by omega), up_a (by omega), kb a (far1 hne ha1 ha2) ha4]
    obtain ⟨u0, v1, v2, v3, v4, v5, v6, v7⟩ := h2
    refine ⟨R_P_same h1 (fun a _ _ => funext (g a (by omega) (by omega) (by omega) (by omega) (by omega))), ⟨?_, ?_, fun i hi => ?_, fun i hi => ?_, fun i hi => ?_, fun i hi => ?_, fun i hi => ?_, fun i hi => ?_⟩, ⟨fun w hw => ?_, ?_, ?_⟩, ?_, ?_, ?_, ?_, ?_⟩
    · rw [g _ (by omega) (by omega) (by omega) (by omega) (by omega)]
      show _ = iN (un (su_pay (s_U S) k))
      rw [un_pay]; exact u0
    · rw [g _ (by omega) (by omega) (by omega) (by omega) (by omega)]; exact v1
    all_goals try
      (have hi : i < un (su_pay (s_U S) k) := hi
       rw [un_pay] at hi
       obtain ⟨p1, p2, p3, p4, p5⟩ := @pay_same (s_U S) k i hk)
    · rw [g _ (by omega) (by omega) (by omega) (by omega) (by omega)]
      show _ = iN (w_id (ug (su_pay (s_U S) k) i))
      rw [p1]; exact v2 i hi
    · rw [g _ (by omega) (by omega) (by omega) (by omega) (by omega)]
      show _ = iN (w_of (ug (su_pay (s_U S) k) i))
      rw [p2]; exact v3 i hi
    · rw [g _ (by omega) (by omega) (by omega) (by omega) (by omega)]
      show _ = iN (w_la (ug (su_pay (s_U S) k) i))
      rw [p3]; exact v4 i hi
    · rw [g _ (by omega) (by omega) (by omega) (by omega) (by omega)]
      show _ = iN (w_ba (ug (su_pay (s_U S) k) i))
      rw [p4]; exact v5 i hi
    · rw [g _ (by omega) (by omega) (by omega) (by omega) (by omega)]
      show _ = caC (w_ca (ug (su_pay (s_U S) k) i))
      rw [p5]; exact v6 i hi
    · show _ = iN (w_pd (ug (su_pay (s_U S) k) i))
      rw [ug_pay hk]
      by_cases e : i = k
      · rw [if_pos e, e, up_at]; rfl
      · rw [if_neg e, up_k e, up_a (by omega), kb _ (far1 hne (by omega) (by omega)) (by omega)]; exact v7 i hi
    · rw [up_a (by omega), up_a (by omega)]; exact u2 w hw
    · rw [up_a (by omega), up_at]; rfl
    · rw [up_c (by omega), up_c (by omega), kb _ (by omega) (by omega)]; exact h3.2.2
    all_goals
      rw [g b (by omega) (by omega) (by omega) (by omega) (by omega)]; assumption
  · intro a ha hb
    rw [up_c (by omega), up_c (by omega), kb a hb (by omega)]
/-- the writs that a dismissal leaves: all but k and what stands on it -/
def heF (U : sU) (k : Nat) : sW → Bool := fun w => !((List.range (un U)).any (fun i => beU U k 8 i && (w_id (ug U i) == w_id w)))
theorem heF_ok {U : sU} {k : Nat} : fok (heF U k) := fun _ _ => rfl
theorem id_inj {U : sU} (hw : wU U) {i j : Nat} (hi : i < un U) (hj : j < un U) (h : w_id (ug U i) = w_id (ug U j)) : i = j := by
  rcases Nat.lt_trichotomy i j with q | q | q
  · have := hw.2.2.1 i j q hj; omega
  · exact q
  · have := hw.2.2.1 j i q hi; omega
theorem heF_g {U : sU} (hw : wU U) {k i : Nat} (hi : i < un U) : heF U k (ug U i) = !(beU U k 8 i) := by
  unfold heF
  congr 1
  rw [Bool.eq_iff_iff, List.any_eq_true]
  constructor
  · rintro ⟨j, h1, h2⟩
    rw [Bool.and_eq_true, beq_iff_eq] at h2
    rw [List.mem_range] at h1
    rw [← id_inj hw h1 hi h2.2]
    exact h2.1
  · intro h
    exact ⟨i, List.mem_range.mpr hi, by rw [h, Bool.true_and, beq_iff_eq]⟩
def heT (S : sS) : sS := (s_P S, s_U S, s_M S, (s_ni S, s_ni S + 1, s_up S, s_di S, s_la S))
def heY (S : sS) (k : Nat) : sS := dsD (heF (s_U S) k) (heT S)
def heP (S : sS) (k : Nat) : sP := if onP (s_P S) (p_ho (s_P S) (w_of (ug (s_U S) k))) = none then sp_mov (s_P S) (w_of (ug (s_U S) k)) (p_ho (s_P S) (w_of (ug (s_U S) k))) else s_P S
def heN (S : sS) (k : Nat) : sS := (heP S k, su_close (s_U S) k, s_M S, (s_ni S, s_ni S + 1, s_up S + iN 1, s_di S, s_la S))
/-- a hearing: d dismissed, u upheld -/
def heS (S : sS) (k : Nat) : sS := if hmB S (w_of (ug (s_U S) k)) = true then heY S k else heN S k
def heC (S : sS) (k : Nat) : Nat := if hmB S (w_of (ug (s_U S) k)) = true then 100 else 117
theorem wS_heT (hw : wS B S) : wS B (heT S) := by
  obtain ⟨q1, q2, q3, q4, q5, q6, q7, q8, q9⟩ := hw
  exact ⟨q1, q2, q3, q4, q5, q6, q7, Nat.le_refl _, q9⟩
theorem c_holdHearing (hL : L_R τ b) (hR : R_R I b S) (hw : wS B S) {x : Int32} {k : Nat} (hc : fiX (s_U S) x = some k) :
    ∃ I', CC (d + 4) 88 [.ref b, .int x] (I, τ) = some (.inl (some (.int (iN (heC S k)))), (I', τ)) ∧ R_R I' b (heS S k) ∧ wS B (heS S k) ∧ Fr b 17 I I' := by
  have hL0 := hL
  have f3 := c_find (d := d + 3) hL.2.2.2.2.2.2.1 hR.2.1 hw.2.2.1 x
  rw [hc] at f3
  have hk := fiX_lt hc
  have w1 := hw.2.2.1.1
  have w6 := hw.2.2.2.2.2.1 k hk
  have w2 := hw.2.1.2.1
  have w3 := hw.1
  have w4 := hw.2.2.2.2.1
  obtain ⟨hb70, k0, k1, k2, k3, lp, lw, lm⟩ := hL
  have l1 := lp.2.1
  have l2 := lw.2.1
  have k32 := lw.2.2.2.1
  have q2 := lw.2.2.2.2.2.2.2.2.2.1
  have p5 := lp.2.2.2.2.2.1
  have i4 := lp.2.2.2.2.2.2.2.2.2.2.1
  have r3 := hR.2.2.2.1
  have e3 := hR.2.1.2.2.2.1 k hk
  have hT := wS_heT hw
  have hRT : R_R (up_2 I b 4 (iN (s_ni S))) b (heT S) := R_R_n hR (fun _ => rfl) (fun z => absurd rfl z) (fun _ => rfl) (fun _ => rfl) (fun _ => rfl) (fun z => by omega) (fun _ => (caC_s _).symm) (fun z => by omega) (fun z => by omega) (fun z => by omega)
  have f5 := c_standsAtHome (d := d + 3) lp hRT.1 hw.2.1 w6.1
  have f5 : CC (d + 3) 67 [.ref (b + 1), .int (iN (w_of (ug (s_U S) k)))] (up_2 I b 4 (iN (s_ni S)), τ) = some (.inl (some (.int (if p_pl (s_P S) (w_of (ug (s_U S) k)) = p_ho (s_P S) (w_of (ug (s_U S) k)) then iN 1 else iN 0))), (up_2 I b 4 (iN (s_ni S)), τ)) := f5
  unfold heS heC hmB
  by_cases q : p_pl (s_P S) (w_of (ug (s_U S) k)) = p_ho (s_P S) (w_of (ug (s_U S) k))
  · rw [if_pos q] at f5
    rw [if_pos (beq_iff_eq.mpr q), if_pos (beq_iff_eq.mpr q)]
    have f6 := c_withFollowers (d := d + 2) (τ := τ) lw hRT.2.1 hw.2.2.1 hk
    have f6 : CC (d + 3) 128 [.ref (b + 7), .int (iN k)] (up_2 I b 4 (iN (s_ni S)), τ) = some (.inl (some (.int (iN (mk (beU (s_U S) k 8) (un (s_U S)))))), (up_2 I b 4 (iN (s_ni S)), τ)) := f6
    have hml : mk (beU (s_U S) k 8) (un (s_U S)) < 1000000 := by
      have h1 := mk_lt (beU (s_U S) k 8) (un (s_U S))
      have h2 : 2 ^ un (s_U S) ≤ 2 ^ 8 := Nat.pow_le_pow_right (by omega) w1
      omega
    obtain ⟨J, s1, s2, s3, s4⟩ := c_dismissAll (d := d) hL0 hRT hT (f := heF (s_U S) k) heF_ok (mask := mk (beU (s_U S) k 8) (un (s_U S))) (g := beU (s_U S) k 8) hml (fun i hi => heF_g hw.2.2.1 hi) (fun i hi => mk_bit _ _ _ hi)
    refine ⟨J, ?_, s2, s3, Fr_tr (Fr_up (by omega)) s4⟩
    rw [c_88, b_88_0]
    simp (disch := omega) only [rd_I_mk, rd_R_mk, rd_L_mk, rd_D_mk, kd_mk, wr_I_mk, cp_mk, gd_true, bd_ret, bd_thr, vl_none, vl_some, iN_add, iN_mul, iN_sub, iN_lt, iN_eq, iN_n, iN_m1, iN_pred, vp_iN, K0_le, nr_b0, nr_b1, m1_lt, lt_m1, iN_ne_m1, m1_ne_iN, not_lt_z, true_and, and_true, and_self, or_true, true_or, or_false, false_or, if_true, if_false, ↓reduceIte, eq_self, up_at, up_a, up_k, cp_c, cp_b, Nat.zero_add, Nat.add_zero, Nat.sub_zero, Nat.le_refl, Nat.add_sub_cancel, fu_at, fu_ne, iN_nz, n10_f, n01_f, ofN, qq_at_100, k110b, Nat.lt_irrefl, Nat.not_lt_zero, ne_eq, not_false_eq_true, not_true_eq_false, k0, k2, l2, f3, oN, b_88_4, r3, b_88_14, k32, q2, e3, k1, l1, f5, b_88_24, f6, b_88_30, s1, b_88_31, nr_ch]
  · rw [if_neg q] at f5
    rw [if_neg (fun z => q (beq_iff_eq.mp z)), if_neg (fun z => q (beq_iff_eq.mp z))]
    have hho := (hw.2.1.2.2.2.1 _ w6.1).2.2.2
    obtain ⟨J, s1, s2, s3⟩ := c_moveIfFree (d := d + 2) lp hRT.1 hw.2.1 w6.1 hho
    obtain ⟨g0, g2, g3, g4, g5, g6, g7⟩ := hRT.1
    have g6 : up_2 I b 4 (iN (s_ni S)) (b + 1 + 4) (w_of (ug (s_U S) k)) = iN (p_ho (s_P S) (w_of (ug (s_U S) k))) := g6 _ w6.1
    have s1 : CC (d + 3) 68 [.ref (b + 1), .int (iN (w_of (ug (s_U S) k))), .int (iN (p_ho (s_P S) (w_of (ug (s_U S) k))))] (up_2 I b 4 (iN (s_ni S)), τ) = some (.inl (some (.int (if onP (s_P S) (p_ho (s_P S) (w_of (ug (s_U S) k))) = none then iN 1 else iN 0))), (J, τ)) := s1
    have hRU : R_U J (b + 7) (s_U S) := R_U_same hRT.2.1 (fun a _ _ => s3 a (by omega))
    obtain ⟨K, u1, u2, u3⟩ := c_close (d := d + 2) lw hRU hw.2.2.1 hk
    have kb : ∀ a, (a < b + 1 ∨ b + 14 ≤ a) → K a = up_2 I b 4 (iN (s_ni S)) a := fun a ha => by rw [u3 a (by omega), s3 a (by omega)]
    have e5 : K b 5 = s_up S := by rw [kb b (by omega)]; exact hRT.2.2.2.2.2.1
    refine ⟨up_2 K b 5 (s_up S + iN 1), ?_, ?_, ?_, ?_⟩
    · rw [c_88, b_88_0]
      simp (disch := omega) only [rd_I_mk, rd_R_mk, rd_L_mk, rd_D_mk, kd_mk, wr_I_mk, cp_mk, gd_true, bd_ret, bd_thr, vl_none, vl_some, iN_add, iN_mul, iN_sub, iN_lt, iN_eq, iN_n, iN_m1, iN_pred, vp_iN, K0_le, nr_b0, nr_b1, m1_lt, lt_m1, iN_ne_m1, m1_ne_iN, not_lt_z, true_and, and_true, and_self, or_true, true_or, or_false, false_or, if_true, if_false, ↓reduceIte, eq_self, up_at, up_a, up_k, cp_c, cp_b, Nat.zero_add, Nat.add_zero, Nat.sub_zero, Nat.le_refl, Nat.add_sub_cancel, fu_at, fu_ne, iN_nz, n10_f, n01_f, ofN, qq_at_100, k110b, Nat.lt_irrefl, Nat.not_lt_zero, ne_eq, not_false_eq_true, not_true_eq_false, k0, k2, l2, f3, oN, b_88_4, r3, b_88_14, k32, q2, e3, k1, l1, f5, b_88_24, p5, i4, g6, s1, b_88_42, u1, b_88_47, e5, b_88_53, nr_ch]
    · refine ⟨?_, R_U_same u2 (fun a _ _ => up_c (by omega)), R_M_same hRT.2.2.1 (fun a _ _ => by rw [up_c (by omega), kb a (by omega)]), ?_, ?_, ?_, ?_, ?_⟩
      · have s2 : R_P J (b + 1) (heP S k) := s2
        exact R_P_same s2 (fun a _ _ => by rw [up_c (by omega), u3 a (by omega)])
      · rw [up_k (by omega), kb b (by omega)]; exact hRT.2.2.2.1
      · rw [up_k (by omega), kb b (by omega)]; exact hRT.2.2.2.2.1
      · exact up_at
      · rw [up_k (by omega), kb b (by omega)]; exact hRT.2.2.2.2.2.2.1
      · rw [up_k (by omega), kb b (by omega)]; exact hRT.2.2.2.2.2.2.2
    · have hcl := wS_cl hT (k := k) hk
      obtain ⟨v1, v2, v3, v4, v5, v6, v7, v8, v9⟩ := hw
      obtain ⟨x1, x2, x3, x4, x5, x6, x7, x8, x9⟩ := hcl
      have hP : wP (heP S k) ∧ p_ns (heP S k) = p_ns (s_P S) := by
        unfold heP
        split
        · rename_i z
          exact ⟨wP_mov v2 w6.1 hho z, rfl⟩
        · exact ⟨v2, rfl⟩
      refine ⟨v1, hP.1, x3, x4, x5, fun i hi => ⟨by show _ < p_ns (heP S k); rw [hP.2]; exact (x6 i hi).1, (x6 i hi).2⟩, fun w hw => ?_, Nat.le_refl _, v9⟩
      have h1 := v7 w hw
      show m_bl (s_M S) w + 60 * un (su_close (s_U S) k) ≤ B
      rw [un_close hk]
      omega
    · exact Fr_tr (Fr_up (by omega)) (Fr_tr (Fr_wd s3 (by omega) (by omega)) (Fr_tr (Fr_wd u3 (by omega) (by omega)) (Fr_up (by omega))))
end PY
