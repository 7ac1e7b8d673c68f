/-! THE SCRIPT: reading a form -/
def gF : List Nat → Bool
  | [] => true
  | ch :: f => !(ch == 0) && (!(ch == 91) || !f.isEmpty) && gF f
def nmb : List Nat → Nat
  | [] => 0
  | ch :: f => nmb f + if ch = 35 ∨ ch = 37 then 1 else 0
theorem sw106 : ∀ ch, ch < 128 → ch ≠ 35 → ch ≠ 37 → qq_sw (.lookupswitch 39 #[(35, 27), (37, 33)]) (iN ch) = some 0 := by decide +kernel
section FO
variable {d : Nat} {I : qq_I} {τ : qq_R} {p Z : Nat} {T : List Nat}
/-- the reader: where it is, the numbers so far, of command cn -/
def RD (I : qq_I) (p cn pos : Nat) (a : List Nat) : Prop := I p 5 = iN pos ∧ I p 4 = iN a.length ∧ I p 3 = iN cn ∧ (∀ i (h : i < a.length), I (p + 5 + cn) i = iN a[i])
/-- what reading leaves alone -/
def RK (I I' : qq_I) (p cn n : Nat) : Prop := (∀ k, k ≠ 4 → k ≠ 5 → I' p k = I p k) ∧ (∀ k, n ≤ k → I' (p + 5 + cn) k = I (p + 5 + cn) k) ∧ (∀ a, a ≠ p → a ≠ p + 5 + cn → I' a = I a)
theorem RK_rf {cn n : Nat} : RK I I p cn n := ⟨fun _ _ _ => rfl, fun _ _ => rfl, fun _ _ _ => rfl⟩
theorem RK_tr {I' I'' : qq_I} {cn n m : Nat} (h : RK I I' p cn n) (h2 : RK I' I'' p cn m) (hm : n ≤ m) : RK I I'' p cn m :=
  ⟨fun k h4 h5 => (h2.1 k h4 h5).trans (h.1 k h4 h5), fun k hk => (h2.2.1 k hk).trans (h.2.1 k (by omega)), fun a h4 h5 => (h2.2.2 a h4 h5).trans (h.2.2 a h4 h5)⟩
theorem RK_SC {I' : qq_I} {cn n : Nat} (h : SC I τ p Z T) (hcn : cn < 11) (hK : RK I I' p cn n) : SC I' τ p Z T := SC_same h (fun a ha => hK.2.2 a (by have := h.2.2.2.2; omega) (by have := h.2.2.2.2; omega))
/-- one part of a form -/
theorem c_readPart (h : SC I τ p Z T) {cn pos ch : Nat} {a : List Nat} (hR : RD I p cn pos a) (hpos : pos ≤ T.length) (hcn : cn < 11) (hch : ch < 128) (ha : a.length + (if ch = 35 ∨ ch = 37 then 1 else 0) ≤ 4) :
    ∃ I', CC (d + 6) 106 [.ref p, .int (iN ch)] (I, τ) = some (.inl (some (.int (b01 (if ch = 35 ∨ ch = 37 then decide ((rdN T (if ch = 35 then 1 else 3) pos 0).2 ≠ pos) else decide (sg T pos = ch))))), (I', τ)) ∧
      RD I' p cn (if ch = 35 ∨ ch = 37 then (rdN T (if ch = 35 then 1 else 3) pos 0).2 else if sg T pos = ch then pos + 1 else pos) (if ch = 35 ∨ ch = 37 then (if (rdN T (if ch = 35 then 1 else 3) pos 0).2 = pos then a else a ++ [(rdN T (if ch = 35 then 1 else 3) pos 0).1]) else a) ∧
      RK I I' p cn (if ch = 35 ∨ ch = 37 then (if (rdN T (if ch = 35 then 1 else 3) pos 0).2 = pos then a else a ++ [(rdN T (if ch = 35 then 1 else 3) pos 0).1]) else a).length := by
  have hS := h.1
  obtain ⟨p70, k9, -⟩ := hS
  have hl60 := h.2.2.1
  obtain ⟨r5, r4, r3, ra⟩ := hR
  have num : ∀ most, most ≤ 3 → a.length + 1 ≤ 4 → ∃ I', CC (d + 5) 108 [.ref p, .int (iN most)] (I, τ) = some (.inl (some (.int (b01 (decide ((rdN T most pos 0).2 ≠ pos))))), (I', τ)) ∧ RD I' p cn (rdN T most pos 0).2 (if (rdN T most pos 0).2 = pos then a else a ++ [(rdN T most pos 0).1]) ∧ RK I I' p cn (if (rdN T most pos 0).2 = pos then a else a ++ [(rdN T most pos 0).1]).length := by
    intro most hm ha4
    obtain ⟨J, s1, s2, s3, s4, s5, s6, s7⟩ := c_readNumber (d := d) h r5 hpos r4 (by omega) r3 hcn hm
    refine ⟨J, s1, ?_⟩
    by_cases z : (rdN T most pos 0).2 = pos
    · rw [if_pos z] at s3 ⊢
      exact ⟨⟨s2, s3, (s4 3 (by omega) (by omega)).trans r3, fun i hi => by rw [s6 i (Or.inl z)]; exact ra i hi⟩, s4, fun k _ => s6 k (Or.inl z), s7⟩
    · rw [if_neg z] at s3 ⊢
      have hl : (a ++ [(rdN T most pos 0).1]).length = a.length + 1 := by rw [List.length_append]; rfl
      refine ⟨⟨s2, by rw [hl]; exact s3, (s4 3 (by omega) (by omega)).trans r3, fun i hi => ?_⟩, s4, fun k hk => s6 k (Or.inr (by omega)), s7⟩
      by_cases e : i < a.length
      · rw [List.getElem_append_left e, s6 i (Or.inr (by omega))]; exact ra i e
      · have e2 : i = a.length := by omega
        subst e2
        rw [s5 z, List.getElem_append_right (Nat.le_refl _)]
        simp only [Nat.sub_self, List.getElem_cons_zero]
  rw [c_106, b_106_0]
  by_cases h35 : ch = 35
  · subst h35
    simp only [true_or, if_true] at ha ⊢
    obtain ⟨J, s1, s2, s3⟩ := num 1 (by omega) ha
    refine ⟨J, ?_, s2, s3⟩
    rw [s_106_1_35, b_106_2]
    cases hb : decide ((rdN T 1 pos 0).2 ≠ pos) with
    | false =>
      rw [hb, b01_f] at s1
      simp (disch := omega) only [rd_I_mk, rd_R_mk, rd_L_mk, rd_D_mk, kd_mk, wr_I_mk, cp_mk, gd_true, bd_ret, bd_thr, vl_none, vl_some, iN_add, iN_mul, iN_sub, iN_lt, iN_eq, iN_n, iN_m1, iN_pred, vp_iN, K0_le, nr_b0, nr_b1, m1_lt, lt_m1, iN_ne_m1, m1_ne_iN, not_lt_z, true_and, and_true, and_self, or_true, true_or, or_false, false_or, if_true, if_false, ↓reduceIte, eq_self, up_at, up_a, up_k, cp_c, cp_b, Nat.zero_add, Nat.add_zero, Nat.sub_zero, Nat.le_refl, Nat.add_sub_cancel, fu_at, fu_ne, iN_nz, n10_f, n01_f, ofN, qq_at_100, k110b, Nat.lt_irrefl, Nat.not_lt_zero, ne_eq, not_false_eq_true, not_true_eq_false, k9, s1, b_106_5, b01_f]
    | true =>
      rw [hb, b01_t] at s1
      simp (disch := omega) only [rd_I_mk, rd_R_mk, rd_L_mk, rd_D_mk, kd_mk, wr_I_mk, cp_mk, gd_true, bd_ret, bd_thr, vl_none, vl_some, iN_add, iN_mul, iN_sub, iN_lt, iN_eq, iN_n, iN_m1, iN_pred, vp_iN, K0_le, nr_b0, nr_b1, m1_lt, lt_m1, iN_ne_m1, m1_ne_iN, not_lt_z, true_and, and_true, and_self, or_true, true_or, or_false, false_or, if_true, if_false, ↓reduceIte, eq_self, up_at, up_a, up_k, cp_c, cp_b, Nat.zero_add, Nat.add_zero, Nat.sub_zero, Nat.le_refl, Nat.add_sub_cancel, fu_at, fu_ne, iN_nz, n10_f, n01_f, ofN, qq_at_100, k110b, Nat.lt_irrefl, Nat.not_lt_zero, ne_eq, not_false_eq_true, not_true_eq_false, k9, s1, b_106_5, b01_t]
  · by_cases h37 : ch = 37
    · subst h37
      have e : ¬ (37 : Nat) = 35 := by omega
      simp only [or_true, if_true, if_neg e] at ha ⊢
      obtain ⟨J, s1, s2, s3⟩ := num 3 (by omega) ha
      refine ⟨J, ?_, s2, s3⟩
      rw [s_106_1_37, b_106_6]
      cases hb : decide ((rdN T 3 pos 0).2 ≠ pos) with
      | false =>
        rw [hb, b01_f] at s1
        simp (disch := omega) only [rd_I_mk, rd_R_mk, rd_L_mk, rd_D_mk, kd_mk, wr_I_mk, cp_mk, gd_true, bd_ret, bd_thr, vl_none, vl_some, iN_add, iN_mul, iN_sub, iN_lt, iN_eq, iN_n, iN_m1, iN_pred, vp_iN, K0_le, nr_b0, nr_b1, m1_lt, lt_m1, iN_ne_m1, m1_ne_iN, not_lt_z, true_and, and_true, and_self, or_true, true_or, or_false, false_or, if_true, if_false, ↓reduceIte, eq_self, up_at, up_a, up_k, cp_c, cp_b, Nat.zero_add, Nat.add_zero, Nat.sub_zero, Nat.le_refl, Nat.add_sub_cancel, fu_at, fu_ne, iN_nz, n10_f, n01_f, ofN, qq_at_100, k110b, Nat.lt_irrefl, Nat.not_lt_zero, ne_eq, not_false_eq_true, not_true_eq_false, k9, s1, b_106_9, b01_f]
      | true =>
        rw [hb, b01_t] at s1
        simp (disch := omega) only [rd_I_mk, rd_R_mk, rd_L_mk, rd_D_mk, kd_mk, wr_I_mk, cp_mk, gd_true, bd_ret, bd_thr, vl_none, vl_some, iN_add, iN_mul, iN_sub, iN_lt, iN_eq, iN_n, iN_m1, iN_pred, vp_iN, K0_le, nr_b0, nr_b1, m1_lt, lt_m1, iN_ne_m1, m1_ne_iN, not_lt_z, true_and, and_true, and_self, or_true, true_or, or_false, false_or, if_true, if_false, ↓reduceIte, eq_self, up_at, up_a, up_k, cp_c, cp_b, Nat.zero_add, Nat.add_zero, Nat.sub_zero, Nat.le_refl, Nat.add_sub_cancel, fu_at, fu_ne, iN_nz, n10_f, n01_f, ofN, qq_at_100, k110b, Nat.lt_irrefl, Nat.not_lt_zero, ne_eq, not_false_eq_true, not_true_eq_false, k9, s1, b_106_9, b01_t]
    · have e : ¬ (ch = 35 ∨ ch = 37) := by omega
      simp only [if_neg e]
      obtain ⟨J, s1, s2, s3, s4⟩ := c_readSign (d := d) h r5 (by omega) hch
      refine ⟨J, ?_, ⟨s2, (s3 4 (by omega)).trans r4, (s3 3 (by omega)).trans r3, fun i hi => by rw [s4 _ (by omega)]; exact ra i hi⟩, fun k h4 h5 => s3 k h5, fun k _ => by rw [s4 _ (by omega)], fun b hb _ => s4 b hb⟩
      rw [s_106_1_d (sw106 ch hch h35 h37), b_106_10]
      cases hb : decide (sg T pos = ch) with
      | false =>
        rw [hb, b01_f] at s1
        simp (disch := omega) only [rd_I_mk, rd_R_mk, rd_L_mk, rd_D_mk, kd_mk, wr_I_mk, cp_mk, gd_true, bd_ret, bd_thr, vl_none, vl_some, iN_add, iN_mul, iN_sub, iN_lt, iN_eq, iN_n, iN_m1, iN_pred, vp_iN, K0_le, nr_b0, nr_b1, m1_lt, lt_m1, iN_ne_m1, m1_ne_iN, not_lt_z, true_and, and_true, and_self, or_true, true_or, or_false, false_or, if_true, if_false, ↓reduceIte, eq_self, up_at, up_a, up_k, cp_c, cp_b, Nat.zero_add, Nat.add_zero, Nat.sub_zero, Nat.le_refl, Nat.add_sub_cancel, fu_at, fu_ne, iN_nz, n10_f, n01_f, ofN, qq_at_100, k110b, Nat.lt_irrefl, Nat.not_lt_zero, ne_eq, not_false_eq_true, not_true_eq_false, k9, s1, b_106_13, b01_f]
      | true =>
        rw [hb, b01_t] at s1
        simp (disch := omega) only [rd_I_mk, rd_R_mk, rd_L_mk, rd_D_mk, kd_mk, wr_I_mk, cp_mk, gd_true, bd_ret, bd_thr, vl_none, vl_some, iN_add, iN_mul, iN_sub, iN_lt, iN_eq, iN_n, iN_m1, iN_pred, vp_iN, K0_le, nr_b0, nr_b1, m1_lt, lt_m1, iN_ne_m1, m1_ne_iN, not_lt_z, true_and, and_true, and_self, or_true, true_or, or_false, false_or, if_true, if_false, ↓reduceIte, eq_self, up_at, up_a, up_k, cp_c, cp_b, Nat.zero_add, Nat.add_zero, Nat.sub_zero, Nat.le_refl, Nat.add_sub_cancel, fu_at, fu_ne, iN_nz, n10_f, n01_f, ofN, qq_at_100, k110b, Nat.lt_irrefl, Nat.not_lt_zero, ne_eq, not_false_eq_true, not_true_eq_false, k9, s1, b_106_13, b01_t]
theorem c_readForm (h : SC I τ p Z T) {s cn pos : Nat} {F : List Nat} (hF : St I τ s F) (hg : gF F = true) (hn : nmb F ≤ 4) (hR : RD I p cn pos []) (hpos : pos ≤ T.length) (hcn : cn < 11) :
    ∃ I', CC (d + 7) 105 [.ref p, .ref s] (I, τ) = some (.inl (some (.int (b01 (rdF T F pos []).1))), (I', τ)) ∧ RD I' p cn (rdF T F pos []).2.1 (rdF T F pos []).2.2 ∧ RK I I' p cn (rdF T F pos []).2.2.length ∧ (rdF T F pos []).2.1 ≤ T.length := by
  have hS := h.1
  obtain ⟨p70, k9, -⟩ := hS
  have hl60 := h.2.2.1
  have hF0 := hF
  obtain ⟨s3, s70, sk, -, -, -, sl, sc, -⟩ := hF0
  have lp : ∀ (f : List Nat) i pos a (J : qq_I) (u3 : Option Value), i ≤ F.length → F.drop i = f → gF f = true → a.length + nmb f ≤ 4 → RD J p cn pos a → RK I J p cn a.length → pos ≤ T.length →
      ∃ I', RR (d + 7) 105 2 [some (.ref p), some (.ref s), some (.int (iN i)), u3] [] (J, τ) = some (.inl (some (.int (b01 (rdF T f pos a).1))), (I', τ)) ∧ RD I' p cn (rdF T f pos a).2.1 (rdF T f pos a).2.2 ∧ RK I I' p cn (rdF T f pos a).2.2.length ∧ (rdF T f pos a).2.1 ≤ T.length := by
    intro f
    induction f with
    | nil =>
      intro i pos a J u3 hi hd _ _ hR hK hp
      have hSt : St J τ s F := St_same hF (fun b hb => ⟨hK.2.2 b (by omega) (by omega), rfl, fun _ => rfl⟩)
      have hi2 : F.length ≤ i := List.drop_eq_nil_iff.mp hd
      have q1 := c_strLen (d := d + 5) hSt
      refine ⟨J, ?_, hR, hK, hp⟩
      have e : ¬ i < F.length := by omega
      rw [b_105_2]
      simp (disch := omega) only [rd_I_mk, rd_R_mk, rd_L_mk, rd_D_mk, kd_mk, wr_I_mk, cp_mk, gd_true, bd_ret, bd_thr, vl_none, vl_some, iN_add, iN_mul, iN_sub, iN_lt, iN_eq, iN_n, iN_m1, iN_pred, vp_iN, K0_le, nr_b0, nr_b1, m1_lt, lt_m1, iN_ne_m1, m1_ne_iN, not_lt_z, true_and, and_true, and_self, or_true, true_or, or_false, false_or, if_true, if_false, ↓reduceIte, eq_self, up_at, up_a, up_k, cp_c, cp_b, Nat.zero_add, Nat.add_zero, Nat.sub_zero, Nat.le_refl, Nat.add_sub_cancel, fu_at, fu_ne, iN_nz, n10_f, n01_f, ofN, qq_at_100, k110b, Nat.lt_irrefl, Nat.not_lt_zero, ne_eq, not_false_eq_true, not_true_eq_false, sk, q1, b_105_5, e]
      rfl
    | cons ch f ih =>
      intro i pos a J u3 hi hd hgf hn4 hR hK hp
      have hSt : St J τ s F := St_same hF (fun b hb => ⟨hK.2.2 b (by omega) (by omega), rfl, fun _ => rfl⟩)
      have hJ := RK_SC h hcn hK
      have hil : i < F.length := by
        rcases Nat.lt_or_ge i F.length with q | q
        · exact q
        · rw [List.drop_eq_nil_of_le q] at hd; exact absurd hd (by simp)
      rw [List.drop_eq_getElem_cons hil] at hd
      obtain ⟨hd1, hd2⟩ := List.cons.inj hd
      have hchb := sc _ (List.getElem_mem hil)
      rw [hd1] at hchb
      rw [gF, Bool.and_eq_true, Bool.and_eq_true, Bool.not_eq_true', beq_eq_false_iff_ne, Bool.or_eq_true, Bool.not_eq_true', beq_eq_false_iff_ne, Bool.not_eq_true'] at hgf
      obtain ⟨⟨gz, g91⟩, gf⟩ := hgf
      have q1 := c_strLen (d := d + 5) hSt
      have q2 := c_strAt (d := d + 3) hSt hil
      rw [hd1] at q2
      have r5 : J p 5 = iN pos := hR.1
      rw [nmb] at hn4
      have start : ∀ out, RR (d + 6 + 1) 105 9 [some (.ref p), some (.ref s), some (.int (iN i)), u3] [.int (iN ch)] (J, τ) = out → RR (d + 7) 105 2 [some (.ref p), some (.ref s), some (.int (iN i)), u3] [] (J, τ) = out := fun out ho => by
        rw [b_105_2]
        simp (disch := omega) only [rd_I_mk, rd_R_mk, rd_L_mk, rd_D_mk, kd_mk, wr_I_mk, cp_mk, gd_true, bd_ret, bd_thr, vl_none, vl_some, iN_add, iN_mul, iN_sub, iN_lt, iN_eq, iN_n, iN_m1, iN_pred, vp_iN, K0_le, nr_b0, nr_b1, m1_lt, lt_m1, iN_ne_m1, m1_ne_iN, not_lt_z, true_and, and_true, and_self, or_true, true_or, or_false, false_or, if_true, if_false, ↓reduceIte, eq_self, up_at, up_a, up_k, cp_c, cp_b, Nat.zero_add, Nat.add_zero, Nat.sub_zero, Nat.le_refl, Nat.add_sub_cancel, fu_at, fu_ne, iN_nz, n10_f, n01_f, ofN, qq_at_100, k110b, Nat.lt_irrefl, Nat.not_lt_zero, ne_eq, not_false_eq_true, not_true_eq_false, sk, q1, b_105_5, hil, q2]
        exact ho
      rw [rdF]
      by_cases h91 : ch = 91
      · subst h91
        rw [if_pos rfl]
        have hfe : f ≠ [] := by
          rcases g91 with g | g
          · exact absurd rfl g
          · intro z; rw [z] at g; exact absurd g (by decide)
        have hil1 : i + 1 < F.length := by
          rcases Nat.lt_or_ge (i + 1) F.length with q | q
          · exact q
          · rw [List.drop_eq_nil_of_le q] at hd2; exact absurd hd2.symm hfe
        have hhd : F[i + 1] = f.headD 0 := by
          rw [List.drop_eq_getElem_cons hil1] at hd2
          rw [← hd2]; rfl
        have q3 := c_signAt (d := d + 2) hJ (i := pos) (by omega)
        have q4 := c_strAt (d := d + 3) hSt hil1
        rw [hhd] at q4
        have hb1 := sg_b h.2.2.2.1 pos
        have hb2 : f.headD 0 < 128 := by rw [← hhd]; exact sc _ (List.getElem_mem hil1)
        by_cases z : sg T pos = f.headD 0
        · rw [if_pos z]
          obtain ⟨I', t1, t2⟩ := ih (i + 1) pos a J (some (.int (iN 91))) (Nat.le_of_lt hil1) hd2 gf (by omega) hR hK hp
          refine ⟨I', start _ ?_, t2⟩
          rw [b_105_9]
          simp (disch := omega) only [rd_I_mk, rd_R_mk, rd_L_mk, rd_D_mk, kd_mk, wr_I_mk, cp_mk, gd_true, bd_ret, bd_thr, vl_none, vl_some, iN_add, iN_mul, iN_sub, iN_lt, iN_eq, iN_n, iN_m1, iN_pred, vp_iN, K0_le, nr_b0, nr_b1, m1_lt, lt_m1, iN_ne_m1, m1_ne_iN, not_lt_z, true_and, and_true, and_self, or_true, true_or, or_false, false_or, if_true, if_false, ↓reduceIte, eq_self, up_at, up_a, up_k, cp_c, cp_b, Nat.zero_add, Nat.add_zero, Nat.sub_zero, Nat.le_refl, Nat.add_sub_cancel, fu_at, fu_ne, iN_nz, n10_f, n01_f, ofN, qq_at_100, k110b, Nat.lt_irrefl, Nat.not_lt_zero, ne_eq, not_false_eq_true, not_true_eq_false, sk, q1, b_105_18, hil1, k9, r5, q3, b_105_23, q4, b_105_28, z, b_105_40]
          exact t1
        · rw [if_neg z]
          refine ⟨J, start _ ?_, hR, hK, hp⟩
          rw [b_105_9]
          simp (disch := omega) only [rd_I_mk, rd_R_mk, rd_L_mk, rd_D_mk, kd_mk, wr_I_mk, cp_mk, gd_true, bd_ret, bd_thr, vl_none, vl_some, iN_add, iN_mul, iN_sub, iN_lt, iN_eq, iN_n, iN_m1, iN_pred, vp_iN, K0_le, nr_b0, nr_b1, m1_lt, lt_m1, iN_ne_m1, m1_ne_iN, not_lt_z, true_and, and_true, and_self, or_true, true_or, or_false, false_or, if_true, if_false, ↓reduceIte, eq_self, up_at, up_a, up_k, cp_c, cp_b, Nat.zero_add, Nat.add_zero, Nat.sub_zero, Nat.le_refl, Nat.add_sub_cancel, fu_at, fu_ne, iN_nz, n10_f, n01_f, ofN, qq_at_100, k110b, Nat.lt_irrefl, Nat.not_lt_zero, ne_eq, not_false_eq_true, not_true_eq_false, sk, q1, b_105_18, hil1, k9, r5, q3, b_105_23, q4, b_105_28, z]
          rfl
      · rw [if_neg h91]
        have go31 : ∀ out, RR (d + 6 + 1) 105 31 [some (.ref p), some (.ref s), some (.int (iN i)), some (.int (iN ch))] [] (J, τ) = out → RR (d + 7) 105 2 [some (.ref p), some (.ref s), some (.int (iN i)), u3] [] (J, τ) = out := fun out ho => start _ (by
          rw [b_105_9]
          simp (disch := omega) only [rd_I_mk, rd_R_mk, rd_L_mk, rd_D_mk, kd_mk, wr_I_mk, cp_mk, gd_true, bd_ret, bd_thr, vl_none, vl_some, iN_add, iN_mul, iN_sub, iN_lt, iN_eq, iN_n, iN_m1, iN_pred, vp_iN, K0_le, nr_b0, nr_b1, m1_lt, lt_m1, iN_ne_m1, m1_ne_iN, not_lt_z, true_and, and_true, and_self, or_true, true_or, or_false, false_or, if_true, if_false, ↓reduceIte, eq_self, up_at, up_a, up_k, cp_c, cp_b, Nat.zero_add, Nat.add_zero, Nat.sub_zero, Nat.le_refl, Nat.add_sub_cancel, fu_at, fu_ne, iN_nz, n10_f, n01_f, ofN, qq_at_100, k110b, Nat.lt_irrefl, Nat.not_lt_zero, ne_eq, not_false_eq_true, not_true_eq_false, h91]
          exact ho)
        by_cases h93 : ch = 93
        · subst h93
          rw [if_pos rfl]
          obtain ⟨I', t1, t2⟩ := ih (i + 1) pos a J (some (.int (iN 93))) hil hd2 gf (by omega) hR hK hp
          refine ⟨I', go31 _ ?_, t2⟩
          rw [b_105_31]
          simp (disch := omega) only [rd_I_mk, rd_R_mk, rd_L_mk, rd_D_mk, kd_mk, wr_I_mk, cp_mk, gd_true, bd_ret, bd_thr, vl_none, vl_some, iN_add, iN_mul, iN_sub, iN_lt, iN_eq, iN_n, iN_m1, iN_pred, vp_iN, K0_le, nr_b0, nr_b1, m1_lt, lt_m1, iN_ne_m1, m1_ne_iN, not_lt_z, true_and, and_true, and_self, or_true, true_or, or_false, false_or, if_true, if_false, ↓reduceIte, eq_self, up_at, up_a, up_k, cp_c, cp_b, Nat.zero_add, Nat.add_zero, Nat.sub_zero, Nat.le_refl, Nat.add_sub_cancel, fu_at, fu_ne, iN_nz, n10_f, n01_f, ofN, qq_at_100, k110b, Nat.lt_irrefl, Nat.not_lt_zero, ne_eq, not_false_eq_true, not_true_eq_false, b_105_40]
          exact t1
        · rw [if_neg h93]
          obtain ⟨K, s1, s2, s3'⟩ := c_readPart (d := d) hJ hR hp hcn hchb (by omega)
          by_cases hnum : ch = 35 ∨ ch = 37
          · simp only [if_pos hnum] at s1 s2 s3' hn4 ⊢
            obtain ⟨b1, b2, b3⟩ := rdN_le (T := T) (if ch = 35 then 1 else 3) pos 0 (by omega) hp
            by_cases z : (rdN T (if ch = 35 then 1 else 3) pos 0).2 = pos
            · rw [decide_eq_false (fun y => y z), b01_f] at s1
              rw [if_pos z] at s2 s3' ⊢
              rw [z] at s2
              refine ⟨K, go31 _ ?_, s2, RK_tr hK s3' (Nat.le_refl _), hp⟩
              rw [b_105_31]
              simp (disch := omega) only [rd_I_mk, rd_R_mk, rd_L_mk, rd_D_mk, kd_mk, wr_I_mk, cp_mk, gd_true, bd_ret, bd_thr, vl_none, vl_some, iN_add, iN_mul, iN_sub, iN_lt, iN_eq, iN_n, iN_m1, iN_pred, vp_iN, K0_le, nr_b0, nr_b1, m1_lt, lt_m1, iN_ne_m1, m1_ne_iN, not_lt_z, true_and, and_true, and_self, or_true, true_or, or_false, false_or, if_true, if_false, ↓reduceIte, eq_self, up_at, up_a, up_k, cp_c, cp_b, Nat.zero_add, Nat.add_zero, Nat.sub_zero, Nat.le_refl, Nat.add_sub_cancel, fu_at, fu_ne, iN_nz, n10_f, n01_f, ofN, qq_at_100, k110b, Nat.lt_irrefl, Nat.not_lt_zero, ne_eq, not_false_eq_true, not_true_eq_false, h93, k9, s1, b_105_37]
              rfl
            · rw [decide_eq_true z, b01_t] at s1
              rw [if_neg z] at s2 s3' ⊢
              have hl : (a ++ [(rdN T (if ch = 35 then 1 else 3) pos 0).1]).length = a.length + 1 := by rw [List.length_append]; rfl
              obtain ⟨I', t1, t2⟩ := ih (i + 1) (rdN T (if ch = 35 then 1 else 3) pos 0).2 (a ++ [(rdN T (if ch = 35 then 1 else 3) pos 0).1]) K (some (.int (iN ch))) hil hd2 gf (by omega) s2 (RK_tr hK s3' (by omega)) b2
              refine ⟨I', go31 _ ?_, t2⟩
              rw [b_105_31]
              simp (disch := omega) only [rd_I_mk, rd_R_mk, rd_L_mk, rd_D_mk, kd_mk, wr_I_mk, cp_mk, gd_true, bd_ret, bd_thr, vl_none, vl_some, iN_add, iN_mul, iN_sub, iN_lt, iN_eq, iN_n, iN_m1, iN_pred, vp_iN, K0_le, nr_b0, nr_b1, m1_lt, lt_m1, iN_ne_m1, m1_ne_iN, not_lt_z, true_and, and_true, and_self, or_true, true_or, or_false, false_or, if_true, if_false, ↓reduceIte, eq_self, up_at, up_a, up_k, cp_c, cp_b, Nat.zero_add, Nat.add_zero, Nat.sub_zero, Nat.le_refl, Nat.add_sub_cancel, fu_at, fu_ne, iN_nz, n10_f, n01_f, ofN, qq_at_100, k110b, Nat.lt_irrefl, Nat.not_lt_zero, ne_eq, not_false_eq_true, not_true_eq_false, h93, k9, s1, b_105_37, b_105_40]
              exact t1
          · simp only [if_neg hnum] at s1 s2 s3' hn4 ⊢
            by_cases z : sg T pos = ch
            · rw [decide_eq_true z, b01_t] at s1
              rw [if_pos z] at s2 ⊢
              have hp1 : pos < T.length := sg_ne (by omega)
              obtain ⟨I', t1, t2⟩ := ih (i + 1) (pos + 1) a K (some (.int (iN ch))) hil hd2 gf (by omega) s2 (RK_tr hK s3' (Nat.le_refl _)) hp1
              refine ⟨I', go31 _ ?_, t2⟩
              rw [b_105_31]
              simp (disch := omega) only [rd_I_mk, rd_R_mk, rd_L_mk, rd_D_mk, kd_mk, wr_I_mk, cp_mk, gd_true, bd_ret, bd_thr, vl_none, vl_some, iN_add, iN_mul, iN_sub, iN_lt, iN_eq, iN_n, iN_m1, iN_pred, vp_iN, K0_le, nr_b0, nr_b1, m1_lt, lt_m1, iN_ne_m1, m1_ne_iN, not_lt_z, true_and, and_true, and_self, or_true, true_or, or_false, false_or, if_true, if_false, ↓reduceIte, eq_self, up_at, up_a, up_k, cp_c, cp_b, Nat.zero_add, Nat.add_zero, Nat.sub_zero, Nat.le_refl, Nat.add_sub_cancel, fu_at, fu_ne, iN_nz, n10_f, n01_f, ofN, qq_at_100, k110b, Nat.lt_irrefl, Nat.not_lt_zero, ne_eq, not_false_eq_true, not_true_eq_false, h93, k9, s1, b_105_37, b_105_40]
              exact t1
            · rw [decide_eq_false z, b01_f] at s1
              rw [if_neg z] at s2 ⊢
              refine ⟨K, go31 _ ?_, s2, RK_tr hK s3' (Nat.le_refl _), hp⟩
              rw [b_105_31]
              simp (disch := omega) only [rd_I_mk, rd_R_mk, rd_L_mk, rd_D_mk, kd_mk, wr_I_mk, cp_mk, gd_true, bd_ret, bd_thr, vl_none, vl_some, iN_add, iN_mul, iN_sub, iN_lt, iN_eq, iN_n, iN_m1, iN_pred, vp_iN, K0_le, nr_b0, nr_b1, m1_lt, lt_m1, iN_ne_m1, m1_ne_iN, not_lt_z, true_and, and_true, and_self, or_true, true_or, or_false, false_or, if_true, if_false, ↓reduceIte, eq_self, up_at, up_a, up_k, cp_c, cp_b, Nat.zero_add, Nat.add_zero, Nat.sub_zero, Nat.le_refl, Nat.add_sub_cancel, fu_at, fu_ne, iN_nz, n10_f, n01_f, ofN, qq_at_100, k110b, Nat.lt_irrefl, Nat.not_lt_zero, ne_eq, not_false_eq_true, not_true_eq_false, h93, k9, s1, b_105_37]
              rfl
  rw [c_105, b_105_0]
  exact lp F 0 pos [] I none (Nat.zero_le _) (by rw [List.drop_zero]) hg (by simpa using hn) hR RK_rf hpos
end FO
