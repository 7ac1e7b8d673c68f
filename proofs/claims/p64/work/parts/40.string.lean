/-! STRINGS -/
/-- the string constant at a -/
def St (I : qq_I) (τ : qq_R) (a : Nat) (l : List Nat) : Prop := 3 ≤ a ∧ a + 1 < 70 ∧ tK τ a = (0, 0) ∧ tR τ a 0 = a + 1 ∧ tK τ (a + 1) = (102, l.length) ∧ I a 1 = iN 0 ∧ l.length ≤ 60 ∧ (∀ c ∈ l, c < 128) ∧ (∀ i (h : i < l.length), I (a + 1) i = iN l[i])
theorem nr_y0 : nr .byte (iN 0) = True := eq_true (congrArg Value.int (by decide))
theorem St_same {I I' : qq_I} {τ τ' : qq_R} {a : Nat} {l : List Nat} (h : St I τ a l) (hs : ∀ a, a < 70 → I' a = I a ∧ tK τ' a = tK τ a ∧ ∀ k, tR τ' a k = tR τ a k) : St I' τ' a l := by
  obtain ⟨h1, h2, h3, h4, h5, h6, h7, h8, h9⟩ := h
  refine ⟨h1, h2, (hs a (by omega)).2.1.trans h3, ((hs a (by omega)).2.2 0).trans h4, (hs _ h2).2.1.trans h5, by rw [(hs a (by omega)).1]; exact h6, h7, h8, fun i hi => by rw [(hs _ h2).1]; exact h9 i hi⟩
section ST
variable {d : Nat} {I : qq_I} {τ : qq_R} {s Z a : Nat} {l m : List Nat}
theorem c_strLen (h : St I τ a m) : CC (d + 1) 14 [.ref a] (I, τ) = some (.inl (some (.int (iN m.length))), (I, τ)) := by
  obtain ⟨h1, h2, h3, h4, h5, h6, h7, h8, h9⟩ := h
  have f : CC d 15 [.ref a] (I, τ) = some (.inl (some (.int (iN 0))), (I, τ)) := by
    rw [c_15, b_15_0]
    simp (disch := omega) only [rd_I_mk, rd_R_mk, rd_L_mk, rd_D_mk, kd_mk, wr_I_mk, cp_mk, gd_true, bd_ret, bd_thr, vl_none, vl_some, iN_add, iN_mul, iN_sub, iN_lt, iN_eq, iN_n, iN_m1, iN_pred, vp_iN, K0_le, nr_b0, nr_b1, m1_lt, lt_m1, iN_ne_m1, m1_ne_iN, not_lt_z, true_and, and_true, and_self, or_true, true_or, or_false, false_or, if_true, if_false, ↓reduceIte, eq_self, up_at, up_a, up_k, cp_c, cp_b, Nat.zero_add, Nat.add_zero, Nat.sub_zero, Nat.le_refl, Nat.add_sub_cancel, fu_at, fu_ne, iN_nz, n10_f, n01_f, ofN, qq_at_100, k110b, Nat.lt_irrefl, Nat.not_lt_zero, ne_eq, not_false_eq_true, not_true_eq_false, h3, h6, b_15_6, nr_y0]
  rw [c_14, b_14_0]
  simp (disch := omega) only [rd_I_mk, rd_R_mk, rd_L_mk, rd_D_mk, kd_mk, wr_I_mk, cp_mk, gd_true, bd_ret, bd_thr, vl_none, vl_some, iN_add, iN_mul, iN_sub, iN_lt, iN_eq, iN_n, iN_m1, iN_pred, vp_iN, K0_le, nr_b0, nr_b1, m1_lt, lt_m1, iN_ne_m1, m1_ne_iN, not_lt_z, true_and, and_true, and_self, or_true, true_or, or_false, false_or, if_true, if_false, ↓reduceIte, eq_self, up_at, up_a, up_k, cp_c, cp_b, Nat.zero_add, Nat.add_zero, Nat.sub_zero, Nat.le_refl, Nat.add_sub_cancel, fu_at, fu_ne, iN_nz, n10_f, n01_f, ofN, qq_at_100, k110b, Nat.lt_irrefl, Nat.not_lt_zero, ne_eq, not_false_eq_true, not_true_eq_false, h3, h4, h5, qq_at_102, f, b_14_5, shr_z]
theorem c_strAt (h : St I τ a m) {i : Nat} (hi : i < m.length) : CC (d + 3) 31 [.ref a, .int (iN i)] (I, τ) = some (.inl (some (.int (iN m[i]))), (I, τ)) := by
  obtain ⟨h1, h2, h3, h4, h5, h6, h7, h8, h9⟩ := h
  have hci := h8 m[i] (List.getElem_mem _)
  have gli := h9 i hi
  have hch := ch_b m[i] hci
  have f29 := c_checkIndex (d := d) (I := I) (τ := τ) hi (by omega)
  have f32 : CC (d + 2) 32 [.ref a] (I, τ) = some (.inl (some (.int (iN 1))), (I, τ)) := by
    rw [c_32, b_32_0]
    simp (disch := omega) only [rd_I_mk, rd_R_mk, rd_L_mk, rd_D_mk, kd_mk, wr_I_mk, cp_mk, gd_true, bd_ret, bd_thr, vl_none, vl_some, iN_add, iN_mul, iN_sub, iN_lt, iN_eq, iN_n, iN_m1, iN_pred, vp_iN, K0_le, nr_b0, nr_b1, m1_lt, lt_m1, iN_ne_m1, m1_ne_iN, not_lt_z, true_and, and_true, and_self, or_true, true_or, or_false, false_or, if_true, if_false, ↓reduceIte, eq_self, up_at, up_a, up_k, cp_c, cp_b, Nat.zero_add, Nat.add_zero, Nat.sub_zero, Nat.le_refl, Nat.add_sub_cancel, fu_at, fu_ne, iN_nz, n10_f, n01_f, ofN, qq_at_100, k110b, Nat.lt_irrefl, Nat.not_lt_zero, ne_eq, not_false_eq_true, not_true_eq_false, h3, h6, b_32_8]
  have f33 : CC (d + 2) 33 [.ref (a + 1), .int (iN i)] (I, τ) = some (.inl (some (.int (iN m[i]))), (I, τ)) := by
    rw [c_33, b_33_0]
    simp (disch := omega) only [rd_I_mk, rd_R_mk, rd_L_mk, rd_D_mk, kd_mk, wr_I_mk, cp_mk, gd_true, bd_ret, bd_thr, vl_none, vl_some, iN_add, iN_mul, iN_sub, iN_lt, iN_eq, iN_n, iN_m1, iN_pred, vp_iN, K0_le, nr_b0, nr_b1, m1_lt, lt_m1, iN_ne_m1, m1_ne_iN, not_lt_z, true_and, and_true, and_self, or_true, true_or, or_false, false_or, if_true, if_false, ↓reduceIte, eq_self, up_at, up_a, up_k, cp_c, cp_b, Nat.zero_add, Nat.add_zero, Nat.sub_zero, Nat.le_refl, Nat.add_sub_cancel, fu_at, fu_ne, iN_nz, n10_f, n01_f, ofN, qq_at_100, k110b, Nat.lt_irrefl, Nat.not_lt_zero, ne_eq, not_false_eq_true, not_true_eq_false, h5, qq_at_102, f29, b_33_4, gli, hch, nr_ch]
  rw [c_31, b_31_0]
  simp (disch := omega) only [rd_I_mk, rd_R_mk, rd_L_mk, rd_D_mk, kd_mk, wr_I_mk, cp_mk, gd_true, bd_ret, bd_thr, vl_none, vl_some, iN_add, iN_mul, iN_sub, iN_lt, iN_eq, iN_n, iN_m1, iN_pred, vp_iN, K0_le, nr_b0, nr_b1, m1_lt, lt_m1, iN_ne_m1, m1_ne_iN, not_lt_z, true_and, and_true, and_self, or_true, true_or, or_false, false_or, if_true, if_false, ↓reduceIte, eq_self, up_at, up_a, up_k, cp_c, cp_b, Nat.zero_add, Nat.add_zero, Nat.sub_zero, Nat.le_refl, Nat.add_sub_cancel, fu_at, fu_ne, iN_nz, n10_f, n01_f, ofN, qq_at_100, k110b, Nat.lt_irrefl, Nat.not_lt_zero, ne_eq, not_false_eq_true, not_true_eq_false, h3, f32, b_31_2, h4, f33, b_31_7, nr_ch]
theorem c_appendString (hR : R_B I τ s Z l) (hS : St I τ a m) (hl : l.length + m.length ≤ 61) :
    ∃ I' τ', CC (d + 6) 12 [.ref s, .ref a] (I, τ) = some (.inl (some (.ref s)), (I', τ')) ∧ PB I τ s Z 1 I' τ' (l ++ m) := by
  have hR0 := hR
  have hS0 := hS
  obtain ⟨a3, a70, sk, sr, sa, s1, s2, s3, s4⟩ := hS
  obtain ⟨s70, sZ, hZ, h1, h2, h3, v0, n0, h4, -, -, -, -, -, hv0, -, -⟩ := hR
  obtain ⟨J, ρ, e1, e2, e3, e4, e5, e6, e7, e8⟩ := c_ensure (d := d + 2) hR0 (k := l.length + m.length) hl
  have e2' := e2
  obtain ⟨-, -, -, g1, g2, g3, v, n, g4, g5, g6, g7, g8, g9, hv, gi, gl⟩ := e2
  rw [g4, g5] at e3
  have e3 : l.length + m.length ≤ n := e3
  have hsv : s ≠ v := by omega
  have hv70 : 70 ≤ v := by omega
  have ja : J a = I a := Gf_II e4 (by omega) (by omega)
  have ja1 : J (a + 1) = I (a + 1) := Gf_II e4 (by omega) (by omega)
  have ka : tK ρ a = (0, 0) := (Gf_K e4 (by omega)).trans sk
  have ka1 : tK ρ (a + 1) = (102, m.length) := (Gf_K e4 (by omega)).trans sa
  have ra : tR ρ a 0 = a + 1 := (Gf_R e4 (by omega) (by omega)).trans sr
  have fLen := c_strLen (d := d + 3) hS0
  have f15 : ∀ D, CC D 15 [.ref a] (J, ρ) = some (.inl (some (.int (iN 0))), (J, ρ)) := fun D => by
    have s1' : J a 1 = iN 0 := by rw [ja]; exact s1
    rw [c_15, b_15_0]
    simp (disch := omega) only [rd_I_mk, rd_R_mk, rd_L_mk, rd_D_mk, kd_mk, wr_I_mk, cp_mk, gd_true, bd_ret, bd_thr, vl_none, vl_some, iN_add, iN_mul, iN_sub, iN_lt, iN_eq, iN_n, iN_m1, iN_pred, vp_iN, K0_le, nr_b0, nr_b1, m1_lt, lt_m1, iN_ne_m1, m1_ne_iN, not_lt_z, true_and, and_true, and_self, or_true, true_or, or_false, false_or, if_true, if_false, ↓reduceIte, eq_self, up_at, up_a, up_k, cp_c, cp_b, Nat.zero_add, Nat.add_zero, Nat.sub_zero, Nat.le_refl, Nat.add_sub_cancel, fu_at, fu_ne, iN_nz, n10_f, n01_f, ofN, qq_at_100, k110b, Nat.lt_irrefl, Nat.not_lt_zero, ne_eq, not_false_eq_true, not_true_eq_false, ka, s1', b_15_6, nr_y0]
  have f17 : CC (d + 3) 17 [.ref s, .ref a] (J, ρ) = some (.inl none, (J, ρ)) := by
    rw [c_17, b_17_0]
    simp (disch := omega) only [rd_I_mk, rd_R_mk, rd_L_mk, rd_D_mk, kd_mk, wr_I_mk, cp_mk, gd_true, bd_ret, bd_thr, vl_none, vl_some, iN_add, iN_mul, iN_sub, iN_lt, iN_eq, iN_n, iN_m1, iN_pred, vp_iN, K0_le, nr_b0, nr_b1, m1_lt, lt_m1, iN_ne_m1, m1_ne_iN, not_lt_z, true_and, and_true, and_self, or_true, true_or, or_false, false_or, if_true, if_false, ↓reduceIte, eq_self, up_at, up_a, up_k, cp_c, cp_b, Nat.zero_add, Nat.add_zero, Nat.sub_zero, Nat.le_refl, Nat.add_sub_cancel, fu_at, fu_ne, iN_nz, n10_f, n01_f, ofN, qq_at_100, k110b, Nat.lt_irrefl, Nat.not_lt_zero, ne_eq, not_false_eq_true, not_true_eq_false, g1, g2, ka, f15, b_17_6, b_17_9]
  have a0 : (iN 0).toNatClampNeg = 0 := iN_n (by omega)
  have am : (Int32.ofNat m.length).toNatClampNeg = m.length := iN_n (by omega)
  have al : (iN l.length).toNatClampNeg = l.length := iN_n (by omega)
  have f18 : CC (d + 3) 18 [.ref a, .ref v, .int (iN l.length), .int (iN 0)] (J, ρ) = some (.inl none, (cp_2 J (a + 1) 0 v l.length m.length, ρ)) := by
    rw [c_18, b_18_0]
    simp only [kd_mk, ka, gd_true, f15, bd_ret, vl_some, b_18_2, if_true, rd_R_mk, ra, ka1, g5, shl_z, a0, am, al, rd_I_mk]
    rw [gd_t ⟨trivial, trivial, rfl, ⟨trivial, Or.inr ⟨trivial, fun i hi => by rw [Nat.zero_add, ja1, s4 i hi]; exact fit_b ⟨_, s3 _ (List.getElem_mem _), rfl⟩⟩⟩, by omega, hv70, ⟨by rw [not_congr (iff_of_eq (iN_nz (a := 0) (by omega)))]; exact not_false, by rw [not_congr (iff_of_eq (iN_nz (a := l.length) (by omega)))]; exact not_false, by show ¬ iN m.length < 0; rw [not_congr (iff_of_eq (iN_nz (a := m.length) (by omega)))]; exact not_false⟩, by omega, e3⟩, cp_mk, b_18_15]
  have f16 : CC (d + 4) 16 [.ref s, .int (iN l.length), .ref a] (J, ρ) = some (.inl none, (cp_2 J (a + 1) 0 v l.length m.length, ρ)) := by
    rw [c_16, b_16_0]
    simp (disch := omega) only [rd_I_mk, rd_R_mk, rd_L_mk, rd_D_mk, kd_mk, wr_I_mk, cp_mk, gd_true, bd_ret, bd_thr, vl_none, vl_some, iN_add, iN_mul, iN_sub, iN_lt, iN_eq, iN_n, iN_m1, iN_pred, vp_iN, K0_le, nr_b0, nr_b1, m1_lt, lt_m1, iN_ne_m1, m1_ne_iN, not_lt_z, true_and, and_true, and_self, or_true, true_or, or_false, false_or, if_true, if_false, ↓reduceIte, eq_self, up_at, up_a, up_k, cp_c, cp_b, Nat.zero_add, Nat.add_zero, Nat.sub_zero, Nat.le_refl, Nat.add_sub_cancel, fu_at, fu_ne, iN_nz, n10_f, n01_f, ofN, qq_at_100, k110b, Nat.lt_irrefl, Nat.not_lt_zero, ne_eq, not_false_eq_true, not_true_eq_false, g1, f17, b_16_3, ka, g4, g2, f18, b_16_10]
  have kc : cp_2 J (a + 1) 0 v l.length m.length s = J s := cp_c hsv
  have k3 : cp_2 J (a + 1) 0 v l.length m.length s 3 = iN l.length := by rw [kc]; exact g3
  have n2 : a ≠ 2 := by omega
  have n0' : a ≠ 0 := by omega
  refine ⟨up_2 (cp_2 J (a + 1) 0 v l.length m.length) s 3 (iN (l.length + m.length)), ρ, ?_, ?_, ?_, e6, by omega, ?_⟩
  · have f13 : CC (d + 5) 13 [.ref s, .ref a] (I, τ) = some (.inl (some (.ref s)), (up_2 (cp_2 J (a + 1) 0 v l.length m.length) s 3 (iN (l.length + m.length)), ρ)) := by
      rw [c_13, b_13_0]
      simp (disch := omega) only [rd_I_mk, rd_R_mk, rd_L_mk, rd_D_mk, kd_mk, wr_I_mk, cp_mk, gd_true, bd_ret, bd_thr, vl_none, vl_some, iN_add, iN_mul, iN_sub, iN_lt, iN_eq, iN_n, iN_m1, iN_pred, vp_iN, K0_le, nr_b0, nr_b1, m1_lt, lt_m1, iN_ne_m1, m1_ne_iN, not_lt_z, true_and, and_true, and_self, or_true, true_or, or_false, false_or, if_true, if_false, ↓reduceIte, eq_self, up_at, up_a, up_k, cp_c, cp_b, Nat.zero_add, Nat.add_zero, Nat.sub_zero, Nat.le_refl, Nat.add_sub_cancel, fu_at, fu_ne, iN_nz, n10_f, n01_f, ofN, qq_at_100, k110b, Nat.lt_irrefl, Nat.not_lt_zero, ne_eq, not_false_eq_true, not_true_eq_false, n2, n0', sk, fLen, b_13_7, h1, h3, e1, b_13_14, g1, g3, f16, b_13_19, k3, b_13_25]
    rw [c_12, b_12_0]
    simp (disch := omega) only [rd_I_mk, rd_R_mk, rd_L_mk, rd_D_mk, kd_mk, wr_I_mk, cp_mk, gd_true, bd_ret, bd_thr, vl_none, vl_some, iN_add, iN_mul, iN_sub, iN_lt, iN_eq, iN_n, iN_m1, iN_pred, vp_iN, K0_le, nr_b0, nr_b1, m1_lt, lt_m1, iN_ne_m1, m1_ne_iN, not_lt_z, true_and, and_true, and_self, or_true, true_or, or_false, false_or, if_true, if_false, ↓reduceIte, eq_self, up_at, up_a, up_k, cp_c, cp_b, Nat.zero_add, Nat.add_zero, Nat.sub_zero, Nat.le_refl, Nat.add_sub_cancel, fu_at, fu_ne, iN_nz, n10_f, n01_f, ofN, qq_at_100, k110b, Nat.lt_irrefl, Nat.not_lt_zero, ne_eq, not_false_eq_true, not_true_eq_false, h1, f13, b_12_3]
  · refine RB_ext e2' (by rw [g4, g5]; exact e3) (by rw [up_k (by omega), kc]) up_at (fun i hi hi2 => ?_) s3 (fun i hi => ?_)
    · rw [g4, up_c (by omega), cp_o (by omega)]
    · rw [g4, up_c (by omega), cp_b (by omega), Nat.add_sub_cancel_left, Nat.zero_add, ja1]
      exact s4 i hi
  · refine Gf_tr (Gf_wd (B := fun a => a = s ∨ a = tR τ s 0) e4 (fun a _ z => Or.inl z)) (Gf_tr (Gf_I (A := fun a => a = s ∨ a = v) (fun b hb => cp_c (fun z => hb (Or.inr z)))) (Gf_up (A := fun a => a = s ∨ a = v) (a := s) (Or.inl rfl)) (fun _ _ z => z) (fun _ _ z => z)) (fun _ _ z => z) (fun a ha z => ?_)
    rcases z with z | z
    · exact Or.inl z
    · rw [g4] at e8
      rcases e8 with e | e
      · exact Or.inr (by rw [z, e])
      · omega
  · rw [g4] at e8 ⊢
    rcases e8 with e | e
    · exact Or.inl e
    · exact Or.inr (by omega)
end ST
