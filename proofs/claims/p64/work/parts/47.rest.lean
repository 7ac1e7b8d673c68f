/-! PUBLIC CALLS: consistency, typing, errors, coming back -/
theorem take_sum : ∀ (l : List Nat) k, (l.take k).sum ≤ l.sum := by
  intro l
  induction l with
  | nil => intro k; rw [List.take_nil]; exact Nat.le_refl _
  | cons a l ih =>
    intro k
    cases k with
    | zero => rw [List.take_zero]; exact Nat.zero_le _
    | succ k =>
      rw [List.take_succ_cons, List.sum_cons, List.sum_cons]
      have := ih k
      omega
theorem gr_bd {U : sU} (hw : wU U) {f : Nat} : ∀ r, r ≤ un U → (gr U f r).sum ≤ 60 * r := by
  intro r
  induction r with
  | zero => intro _; exact Nat.le_refl _
  | succ r ih =>
    intro hr
    have h1 := ih (by omega)
    have h2 := (hw.2.2.2 (ow U r) (ow_lt (by omega))).2.2.2.1
    rw [gr]
    refine Nat.le_trans (take_sum _ _) ?_
    rw [(insD_perm _ _).sum_nat, List.sum_cons]
    have h2 : ba U (ow U r) ≤ 60 := h2
    omega
section CO
variable {d : Nat} {I : qq_I} {τ : qq_R} {c Z B : Nat} {C : sC}
theorem c_arrowsAgree (h : R_C I τ c Z B C) : ∃ I', CC (d + 3) 201 [.ref c] (I, τ) = some (.inl (some (.int (iN 1))), (I', τ)) ∧ Fr (c + 190) 3 I I' := by
  obtain ⟨g1, g2, g3, g4, g5, gx⟩ := h
  have k12 := g1.2.1
  have e0 := g1.2.2.1
  have e5 := g1.2.2.2.2.2.2.1
  have hl := g1.2.2.2.2.2.2.2.2.2.2.2.1
  have hL5 := g1.2.2.2.2.2.2.2.2.2.2.2.2.2.2.2.1
  have k8 := hl.2.1
  have lp := hl.2.2.2.2.2.1
  have f0 := hl.2.2.1
  have k7 := lp.2.1
  have k5 := hL5.2.1
  have w1 := g3.2.1.1
  have hP : ∀ J, Fr (c + 190) 3 I J → R_P J (c + 1 + 1) (s_P (g_S C)) := fun J hF => R_P_same g2.1 (fun a _ _ => hF a (by omega))
  have inner : ∀ m k s (J : qq_I), s + m = 21 → k < p_np (s_P (g_S C)) → Fr (c + 190) 3 I J → ∃ J', RR (d + 3) 201 12 [some (.ref c), some (.ref (c + 1 + 1)), some (.int (iN k)), some (.int (iN s))] [] (J, τ) = RR (d + 3) 201 6 [some (.ref c), some (.ref (c + 1 + 1)), some (.int (iN (k + 1))), some (.int (iN 21))] [] (J', τ) ∧ Fr (c + 190) 3 I J' := by
    intro m
    induction m with
    | zero =>
      intro k s J hs hk hF
      have hs : s = 21 := hs
      subst hs
      refine ⟨J, ?_, hF⟩
      have e : 20 < 21 := by omega
      rw [b_201_12]
      simp (disch := omega) only [rd_I_mk, rd_R_mk, rd_L_mk, rd_D_mk, kd_mk, wr_I_mk, cp_mk, gd_true, bd_ret, bd_thr, vl_none, vl_some, iN_add, iN_mul, iN_sub, iN_lt, iN_eq, iN_n, iN_m1, iN_pred, vp_iN, K0_le, nr_b0, nr_b1, m1_lt, lt_m1, iN_ne_m1, m1_ne_iN, not_lt_z, true_and, and_true, and_self, or_true, true_or, or_false, false_or, if_true, if_false, ↓reduceIte, eq_self, up_at, up_a, up_k, cp_c, cp_b, Nat.zero_add, Nat.add_zero, Nat.sub_zero, Nat.le_refl, Nat.add_sub_cancel, fu_at, fu_ne, iN_nz, n10_f, n01_f, ofN, qq_at_100, k110b, Nat.lt_irrefl, Nat.not_lt_zero, ne_eq, not_false_eq_true, not_true_eq_false, e]
    | succ m ih =>
      intro k s J hs hk hF
      have q1 := c_followArrows (d := d + 2) (τ := τ) lp (hP J hF) g3.2.1 hk (n := s) (by omega)
      obtain ⟨K, q2, q3⟩ := c_leaps (d := d + 1) (τ := τ) hL5 lp (hP J hF) g3.2.1 (Or.inl (by omega)) hk (n := s) (by omega)
      obtain ⟨J', t1, t2⟩ := ih k (s + 1) K (by omega) hk (Fr_tr hF q3)
      refine ⟨J', ?_, t2⟩
      have e : ¬ 20 < s := by omega
      rw [b_201_12]
      simp (disch := omega) only [rd_I_mk, rd_R_mk, rd_L_mk, rd_D_mk, kd_mk, wr_I_mk, cp_mk, gd_true, bd_ret, bd_thr, vl_none, vl_some, iN_add, iN_mul, iN_sub, iN_lt, iN_eq, iN_n, iN_m1, iN_pred, vp_iN, K0_le, nr_b0, nr_b1, m1_lt, lt_m1, iN_ne_m1, m1_ne_iN, not_lt_z, true_and, and_true, and_self, or_true, true_or, or_false, false_or, if_true, if_false, ↓reduceIte, eq_self, up_at, up_a, up_k, cp_c, cp_b, Nat.zero_add, Nat.add_zero, Nat.sub_zero, Nat.le_refl, Nat.add_sub_cancel, fu_at, fu_ne, iN_nz, n10_f, n01_f, ofN, qq_at_100, k110b, Nat.lt_irrefl, Nat.not_lt_zero, ne_eq, not_false_eq_true, not_true_eq_false, e, k7, q1, b_201_19, k12, e5, k5, q2, b_201_25]
      exact t1
  have outer : ∀ m k (u3 : Option Value) (J : qq_I), k + m = p_np (s_P (g_S C)) → Fr (c + 190) 3 I J → ∃ J', RR (d + 3) 201 6 [some (.ref c), some (.ref (c + 1 + 1)), some (.int (iN k)), u3] [] (J, τ) = some (.inl (some (.int (iN 1))), (J', τ)) ∧ Fr (c + 190) 3 I J' := by
    intro m
    induction m with
    | zero =>
      intro k u3 J hs hF
      have hs : k = p_np (s_P (g_S C)) := hs
      have r0 : J (c + 1 + 1) 0 = iN k := by rw [hs]; exact (hP J hF).1
      refine ⟨J, ?_, hF⟩
      rw [b_201_6]
      simp (disch := omega) only [rd_I_mk, rd_R_mk, rd_L_mk, rd_D_mk, kd_mk, wr_I_mk, cp_mk, gd_true, bd_ret, bd_thr, vl_none, vl_some, iN_add, iN_mul, iN_sub, iN_lt, iN_eq, iN_n, iN_m1, iN_pred, vp_iN, K0_le, nr_b0, nr_b1, m1_lt, lt_m1, iN_ne_m1, m1_ne_iN, not_lt_z, true_and, and_true, and_self, or_true, true_or, or_false, false_or, if_true, if_false, ↓reduceIte, eq_self, up_at, up_a, up_k, cp_c, cp_b, Nat.zero_add, Nat.add_zero, Nat.sub_zero, Nat.le_refl, Nat.add_sub_cancel, fu_at, fu_ne, iN_nz, n10_f, n01_f, ofN, qq_at_100, k110b, Nat.lt_irrefl, Nat.not_lt_zero, ne_eq, not_false_eq_true, not_true_eq_false, k7, r0]
    | succ m ih =>
      intro k u3 J hs hF
      have r0 := (hP J hF).1
      have e : k < p_np (s_P (g_S C)) := by omega
      obtain ⟨K, q2, q3⟩ := inner 21 k 0 J rfl e hF
      obtain ⟨J', t1, t2⟩ := ih (k + 1) (some (.int (iN 21))) K (by omega) q3
      refine ⟨J', ?_, t2⟩
      rw [b_201_6]
      simp (disch := omega) only [rd_I_mk, rd_R_mk, rd_L_mk, rd_D_mk, kd_mk, wr_I_mk, cp_mk, gd_true, bd_ret, bd_thr, vl_none, vl_some, iN_add, iN_mul, iN_sub, iN_lt, iN_eq, iN_n, iN_m1, iN_pred, vp_iN, K0_le, nr_b0, nr_b1, m1_lt, lt_m1, iN_ne_m1, m1_ne_iN, not_lt_z, true_and, and_true, and_self, or_true, true_or, or_false, false_or, if_true, if_false, ↓reduceIte, eq_self, up_at, up_a, up_k, cp_c, cp_b, Nat.zero_add, Nat.add_zero, Nat.sub_zero, Nat.le_refl, Nat.add_sub_cancel, fu_at, fu_ne, iN_nz, n10_f, n01_f, ofN, qq_at_100, k110b, Nat.lt_irrefl, Nat.not_lt_zero, ne_eq, not_false_eq_true, not_true_eq_false, k7, r0, e]
      exact q2.trans t1
  obtain ⟨J', t1, t2⟩ := outer (p_np (s_P (g_S C))) 0 none I (Nat.zero_add _) Fr_rf
  refine ⟨J', ?_, t2⟩
  rw [c_201, b_201_0]
  simp (disch := omega) only [rd_I_mk, rd_R_mk, rd_L_mk, rd_D_mk, kd_mk, wr_I_mk, cp_mk, gd_true, bd_ret, bd_thr, vl_none, vl_some, iN_add, iN_mul, iN_sub, iN_lt, iN_eq, iN_n, iN_m1, iN_pred, vp_iN, K0_le, nr_b0, nr_b1, m1_lt, lt_m1, iN_ne_m1, m1_ne_iN, not_lt_z, true_and, and_true, and_self, or_true, true_or, or_false, false_or, if_true, if_false, ↓reduceIte, eq_self, up_at, up_a, up_k, cp_c, cp_b, Nat.zero_add, Nat.add_zero, Nat.sub_zero, Nat.le_refl, Nat.add_sub_cancel, fu_at, fu_ne, iN_nz, n10_f, n01_f, ofN, qq_at_100, k110b, Nat.lt_irrefl, Nat.not_lt_zero, ne_eq, not_false_eq_true, not_true_eq_false, k12, e0, k8, f0]
  exact t1
theorem c_docketsAgree (h : R_C I τ c Z B C) : ∃ I', CC (d + 3) 202 [.ref c] (I, τ) = some (.inl (some (.int (b01 (decide ((gr (s_U (g_S C)) (fnt (g_S C)) (un (s_U (g_S C)))).sum = mxs (vset (s_U (g_S C)) (fnt (g_S C))) (2 ^ un (s_U (g_S C)))))))), (I', τ)) ∧ Fr (c + 193) 3 I I' := by
  obtain ⟨g1, g2, g3, g4, g5, gx⟩ := h
  have k12 := g1.2.1
  have e0 := g1.2.2.1
  have e6 := g1.2.2.2.2.2.2.2.1
  have hl := g1.2.2.2.2.2.2.2.2.2.2.2.1
  have hD6 := g1.2.2.2.2.2.2.2.2.2.2.2.2.2.2.2.2.1
  have k8 := hl.2.1
  have lw := hl.2.2.2.2.2.2.1
  have f1 := hl.2.2.2.1
  have k3 := hD6.2.1
  have wb := g3.1
  have w8 := g3.2.2.2.2.1
  have hf : fnt (g_S C) < 1000000 := by unfold fnt; split <;> omega
  have q1 := c_firstNight (d := d + 2) (τ := τ) hl g2 g3
  obtain ⟨J, q6, q7⟩ := c_givingUp (d := d) (τ := τ) hD6 lw g2.2.1 g3.2.2.1 (Or.inl (by omega)) hf
  obtain ⟨K, q8, q9⟩ := c_tryingSets (d := d) (τ := τ) hD6 lw (R_U_same g2.2.1 (fun a _ _ => q7 a (by omega))) g3.2.2.1 (Or.inl (by omega)) hf
  have w3 := g3.2.2.1.1
  have a1 := gr_bd (U := s_U (g_S C)) g3.2.2.1 (f := fnt (g_S C)) (un (s_U (g_S C))) (Nat.le_refl _)
  have a2 := mxs_le (g := vset (s_U (g_S C)) (fnt (g_S C))) (B := 480) (fun s => vset_le g3.2.2.1) (2 ^ un (s_U (g_S C)))
  have e : (iN (gr (s_U (g_S C)) (fnt (g_S C)) (un (s_U (g_S C)))).sum = iN (mxs (vset (s_U (g_S C)) (fnt (g_S C))) (2 ^ un (s_U (g_S C))))) = ((gr (s_U (g_S C)) (fnt (g_S C)) (un (s_U (g_S C)))).sum = mxs (vset (s_U (g_S C)) (fnt (g_S C))) (2 ^ un (s_U (g_S C)))) := iN_eq (by omega) (by omega)
  refine ⟨K, ?_, Fr_tr q7 q9⟩
  rw [c_202, b_202_0]
  by_cases z : (gr (s_U (g_S C)) (fnt (g_S C)) (un (s_U (g_S C)))).sum = mxs (vset (s_U (g_S C)) (fnt (g_S C))) (2 ^ un (s_U (g_S C)))
  · rw [eq_true z] at e
    rw [decide_eq_true z]
    simp only [rd_I_mk, rd_R_mk, kd_mk, k12, e0, e6, k8, f1, k3, gd_true, and_self, q1, bd_ret, vl_some, b_202_3, q6, b_202_11, q8, b_202_18, e, if_true, b_202_22, nr_b1]
    rfl
  · rw [eq_false z] at e
    rw [decide_eq_false z]
    simp only [rd_I_mk, rd_R_mk, kd_mk, k12, e0, e6, k8, f1, k3, gd_true, and_self, q1, bd_ret, vl_some, b_202_3, q6, b_202_11, q8, b_202_18, e, if_false, b_202_22, nr_b0]
    rfl
theorem c_blocksAgree (h : R_C I τ c Z B C) : ∃ I' τ', CC (d + 23) 203 [.ref c] (I, τ) = some (.inl (some (.int (iN 1))), (I', τ')) ∧ Fr (c + 198) 21 I I' ∧ Lq (c + 219) τ τ' := by
  obtain ⟨g1, g2, g3, g4, g5, gx⟩ := h
  have hL := g1
  have k12 := g1.2.1
  have e0 := g1.2.2.1
  have e7 := g1.2.2.2.2.2.2.2.2.1
  have hl := g1.2.2.2.2.2.2.2.2.2.2.2.1
  have hT7 := g1.2.2.2.2.2.2.2.2.2.2.2.2.2.2.2.2.2.1
  have k8 := hl.2.1
  have lm := hl.2.2.2.2.2.2.2
  have f2 := hl.2.2.2.2.1
  have kM := lm.2.1
  have m0 := lm.2.2.1
  have k10 := hT7.2.1
  have hm := wS_M g3
  obtain ⟨J, q6, q7, q8⟩ := c_fillTable (d := d + 21) (I := I) hT7 (s := c + 1 + 14 + 1) lm.2.2.2.2.1 (by omega) g2.2.2.1.1 hm
  have hS : ∀ w, w < 21 → J (c + 1 + 14 + 1) w = iN (m_bl (s_M (g_S C)) w) := fun w hw => by rw [q8 _ (by omega)]; exact g2.2.2.1.1 w hw
  have lp : ∀ m a (ρ : qq_R), a + m = 61 → 1 ≤ a → Lq (c + 219) τ ρ → ∃ ρ', RR (d + 23) 203 9 [some (.ref c), some (.int (iN a))] [] (J, ρ) = some (.inl (some (.int (iN 1))), (J, ρ')) ∧ Lq (c + 219) τ ρ' := by
    intro m
    induction m with
    | zero =>
      intro a ρ ha _ hq
      have ha : a = 61 := ha
      subst ha
      refine ⟨ρ, ?_, hq⟩
      have e : 60 < 61 := by omega
      rw [b_203_9]
      simp (disch := omega) only [rd_I_mk, rd_R_mk, rd_L_mk, rd_D_mk, kd_mk, wr_I_mk, cp_mk, gd_true, bd_ret, bd_thr, vl_none, vl_some, iN_add, iN_mul, iN_sub, iN_lt, iN_eq, iN_n, iN_m1, iN_pred, vp_iN, K0_le, nr_b0, nr_b1, m1_lt, lt_m1, iN_ne_m1, m1_ne_iN, not_lt_z, true_and, and_true, and_self, or_true, true_or, or_false, false_or, if_true, if_false, ↓reduceIte, eq_self, up_at, up_a, up_k, cp_c, cp_b, Nat.zero_add, Nat.add_zero, Nat.sub_zero, Nat.le_refl, Nat.add_sub_cancel, fu_at, fu_ne, iN_nz, n10_f, n01_f, ofN, qq_at_100, k110b, Nat.lt_irrefl, Nat.not_lt_zero, ne_eq, not_false_eq_true, not_true_eq_false, e]
    | succ m ih =>
      intro a ρ ha h1 hq
      have hTq := Tq_Lq hq
      have hlt : ∀ b, tK ρ b = tK τ b := fun b => Lq_K hq
      have hlr : ∀ b k, tR ρ b k = tR τ b k := fun b k => Lq_R hq
      have hT8 : L_T ρ (c + 196) := L_T_T hT7 (fun b _ _ => ⟨hlt b, hlr b⟩)
      have q9 := c_fewestByTable (d := d + 22) (τ := ρ) (I := J) (bl := m_bl (s_M (g_S C))) hT8 q7 (a := a) (by omega)
      obtain ⟨ρ2, s1, s2⟩ := c_fewestBySearch (d := d) (τ := ρ) (I := J) hT8 (s := c + 1 + 14 + 1) ((hlt _).trans lm.2.2.2.2.1) hS hm (a := a) (by omega)
      have hq2 : Lq (c + 219) τ ρ2 := ⟨s2.1.trans hq.1, s2.2.1.trans hq.2.1, fun b hb => (s2.2.2 b hb).trans (hq.2.2 b hb)⟩
      obtain ⟨ρ3, t1, t2⟩ := ih (a + 1) ρ2 (by omega) (by omega) hq2
      refine ⟨ρ3, ?_, t2⟩
      have e : ¬ 60 < a := by omega
      have k12' := (hlt c).trans k12
      have e0' := (hlr c 0).trans e0
      have e7' := (hlr c 7).trans e7
      have k8' := (hlt (c + 1)).trans k8
      have f2' := (hlr (c + 1) 2).trans f2
      have kM' := (hlt (c + 1 + 14)).trans kM
      have m0' := (hlr (c + 1 + 14) 0).trans m0
      have k10' := (hlt (c + 196)).trans k10
      have hfl := @fw_le (m_bl (s_M (g_S C))) 20 a
      rw [b_203_9]
      simp (disch := omega) only [rd_I_mk, rd_R_mk, rd_L_mk, rd_D_mk, kd_mk, wr_I_mk, cp_mk, gd_true, bd_ret, bd_thr, vl_none, vl_some, iN_add, iN_mul, iN_sub, iN_lt, iN_eq, iN_n, iN_m1, iN_pred, vp_iN, K0_le, nr_b0, nr_b1, m1_lt, lt_m1, iN_ne_m1, m1_ne_iN, not_lt_z, true_and, and_true, and_self, or_true, true_or, or_false, false_or, if_true, if_false, ↓reduceIte, eq_self, up_at, up_a, up_k, cp_c, cp_b, Nat.zero_add, Nat.add_zero, Nat.sub_zero, Nat.le_refl, Nat.add_sub_cancel, fu_at, fu_ne, iN_nz, n10_f, n01_f, ofN, qq_at_100, k110b, Nat.lt_irrefl, Nat.not_lt_zero, ne_eq, not_false_eq_true, not_true_eq_false, e, k12', e0', e7', k8', f2', kM', m0', k10', q9, b_203_16, s1, b_203_24]
      exact t1
  obtain ⟨ρ', t1, t2⟩ := lp 60 1 τ rfl (Nat.le_refl _) Lq_rf
  refine ⟨J, ρ', ?_, fun a ha => q8 a (by omega), t2⟩
  rw [c_203, b_203_0]
  simp (disch := omega) only [rd_I_mk, rd_R_mk, rd_L_mk, rd_D_mk, kd_mk, wr_I_mk, cp_mk, gd_true, bd_ret, bd_thr, vl_none, vl_some, iN_add, iN_mul, iN_sub, iN_lt, iN_eq, iN_n, iN_m1, iN_pred, vp_iN, K0_le, nr_b0, nr_b1, m1_lt, lt_m1, iN_ne_m1, m1_ne_iN, not_lt_z, true_and, and_true, and_self, or_true, true_or, or_false, false_or, if_true, if_false, ↓reduceIte, eq_self, up_at, up_a, up_k, cp_c, cp_b, Nat.zero_add, Nat.add_zero, Nat.sub_zero, Nat.le_refl, Nat.add_sub_cancel, fu_at, fu_ne, iN_nz, n10_f, n01_f, ofN, qq_at_100, k110b, Nat.lt_irrefl, Nat.not_lt_zero, ne_eq, not_false_eq_true, not_true_eq_false, k12, e0, e7, k8, f2, kM, m0, k10, q6, b_203_7]
  exact t1
theorem p_isConsistent (h : R_C I τ c Z B C) : ∃ I' τ', CC (d + 40) 179 [.ref c] (I, τ) = some (oO (.inl (b01 (decide ((gr (s_U (g_S C)) (fnt (g_S C)) (un (s_U (g_S C)))).sum = mxs (vset (s_U (g_S C)) (fnt (g_S C))) (2 ^ un (s_U (g_S C))))))), (I', τ')) ∧ PC I τ c Z B I' τ' C := by
  obtain ⟨J1, q1, q2⟩ := c_arrowsAgree (d := d + 36) h
  have h1 : R_C J1 τ c Z B C := R_C_fr h Tq_rf (fun a _ ha => q2 a (by omega))
  obtain ⟨J2, q3, q4⟩ := c_docketsAgree (d := d + 36) h1
  have h2 : R_C J2 τ c Z B C := R_C_fr h1 Tq_rf (fun a _ ha => q4 a (by omega))
  obtain ⟨J3, ρ, q5, q6, q7⟩ := c_blocksAgree (d := d + 16) h2
  have hP : PC I τ c Z B J3 ρ C := PC_fr h (fun a _ ha => by rw [q6 a (by omega), q4 a (by omega), q2 a (by omega)]) q7
  have hP2 : PC I τ c Z B J2 τ C := PC_fr h (fun a _ ha => by rw [q4 a (by omega), q2 a (by omega)]) Lq_rf
  have k12 := h.1.2.1
  obtain ⟨g1, g2, g3, g4, g5, gx⟩ := hP.1
  have k12' := g1.2.1
  have e0 := g1.2.2.1
  have hl := g1.2.2.2.2.2.2.2.2.2.2.2.1
  have k8 := hl.2.1
  have lp := hl.2.2.2.2.2.1
  have lm := hl.2.2.2.2.2.2.2
  have f0 := hl.2.2.1
  have f2 := hl.2.2.2.2.1
  have k7 := lp.2.1
  have kM := lm.2.1
  have q8 := c_weightHeld (d := d + 38) (τ := ρ) lm g2.2.2.1
  have q9 := c_weightAdded (d := d + 38) (τ := ρ) lm g2.2.2.1
  have q10 := c_standApart (d := d + 38) (τ := ρ) lp g2.1 g3.2.1
  have e9 : sA (fun w => iN (m_bl (s_M (g_S C)) w)) 20 + m_tr (s_M (g_S C)) = m_ad (s_M (g_S C)) := by
    rw [Int32.add_comm]; exact g3.2.2.2.2.2.2.2.2
  rw [e9] at q8
  by_cases z : (gr (s_U (g_S C)) (fnt (g_S C)) (un (s_U (g_S C)))).sum = mxs (vset (s_U (g_S C)) (fnt (g_S C))) (2 ^ un (s_U (g_S C)))
  · rw [decide_eq_true z, b01_t] at q3 ⊢
    refine ⟨J3, ρ, ?_, hP⟩
    rw [c_179, b_179_0]
    simp (disch := omega) only [rd_I_mk, rd_R_mk, rd_L_mk, rd_D_mk, kd_mk, wr_I_mk, cp_mk, gd_true, bd_ret, bd_thr, vl_none, vl_some, iN_add, iN_mul, iN_sub, iN_lt, iN_eq, iN_n, iN_m1, iN_pred, vp_iN, K0_le, nr_b0, nr_b1, m1_lt, lt_m1, iN_ne_m1, m1_ne_iN, not_lt_z, true_and, and_true, and_self, or_true, true_or, or_false, false_or, if_true, if_false, ↓reduceIte, eq_self, up_at, up_a, up_k, cp_c, cp_b, Nat.zero_add, Nat.add_zero, Nat.sub_zero, Nat.le_refl, Nat.add_sub_cancel, fu_at, fu_ne, iN_nz, n10_f, n01_f, ofN, qq_at_100, k110b, Nat.lt_irrefl, Nat.not_lt_zero, ne_eq, not_false_eq_true, not_true_eq_false, k12, k12', q1, b_179_2, q3, b_179_5, q5, b_179_8, e0, k8, f0, f2, k7, kM, q8, b_179_13, q9, b_179_17, q10, b_179_22, b_179_26, oO]
  · rw [decide_eq_false z, b01_f] at q3 ⊢
    refine ⟨J2, τ, ?_, hP2⟩
    rw [c_179, b_179_0]
    simp (disch := omega) only [rd_I_mk, rd_R_mk, rd_L_mk, rd_D_mk, kd_mk, wr_I_mk, cp_mk, gd_true, bd_ret, bd_thr, vl_none, vl_some, iN_add, iN_mul, iN_sub, iN_lt, iN_eq, iN_n, iN_m1, iN_pred, vp_iN, K0_le, nr_b0, nr_b1, m1_lt, lt_m1, iN_ne_m1, m1_ne_iN, not_lt_z, true_and, and_true, and_self, or_true, true_or, or_false, false_or, if_true, if_false, ↓reduceIte, eq_self, up_at, up_a, up_k, cp_c, cp_b, Nat.zero_add, Nat.add_zero, Nat.sub_zero, Nat.le_refl, Nat.add_sub_cancel, fu_at, fu_ne, iN_nz, n10_f, n01_f, ofN, qq_at_100, k110b, Nat.lt_irrefl, Nat.not_lt_zero, ne_eq, not_false_eq_true, not_true_eq_false, k12, q1, b_179_2, q3, b_179_5, b_179_25, b_179_26, oO]
end CO
