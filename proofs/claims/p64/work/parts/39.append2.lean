/-! STRING BUILDERS: what a call does to the signs -/
/-- k calls that append at most: the builder holds l' behind them -/
def PB (I : qq_I) (τ : qq_R) (s Z : Nat) (k : Nat) (I' : qq_I) (τ' : qq_R) (l' : List Nat) : Prop := R_B I' τ' s Z l' ∧ Gf (fun a => a = s ∨ a = tR τ s 0) I τ I' τ' ∧ tZ τ' ≤ tZ τ + k ∧ tU τ' ≤ tU τ + 122 * k ∧ (tR τ' s 0 = tR τ s 0 ∨ tZ τ ≤ tR τ' s 0)
theorem PB_tr {I I' I'' : qq_I} {τ τ' τ'' : qq_R} {s Z k j : Nat} {l l' : List Nat} (h1 : PB I τ s Z k I' τ' l) (h2 : PB I' τ' s Z j I'' τ'' l') : PB I τ s Z (k + j) I'' τ'' l' := by
  obtain ⟨p1, p2, p3, p4, p5⟩ := h1
  obtain ⟨q1, q2, q3, q4, q5⟩ := h2
  have hz := p2.1
  refine ⟨q1, Gf_tr p2 q2 (fun _ _ z => z) (fun a ha z => ?_), by omega, by omega, ?_⟩
  · rcases z with z | z
    · exact Or.inl z
    · rcases p5 with e | e
      · exact Or.inr (by rw [z, e])
      · omega
  · rcases q5 with e | e
    · rw [e]; exact p5
    · right; omega
theorem PB_z {I : qq_I} {τ : qq_R} {s Z : Nat} {l : List Nat} (h : R_B I τ s Z l) : PB I τ s Z 0 I τ l := ⟨h, Gf_rf, Nat.le_refl _, Nat.le_refl _, Or.inl rfl⟩
section AQ
variable {d : Nat} {I I' : qq_I} {τ : qq_R} {s Z : Nat} {l : List Nat}
theorem RB_ext {m : List Nat} (hR : R_B I τ s Z l) (hm : l.length + m.length ≤ (tK τ (tR τ s 0)).2) (h1 : I' s 1 = I s 1) (h3 : I' s 3 = iN (l.length + m.length))
    (hi : ∀ i, i < (tK τ (tR τ s 0)).2 → (i < l.length ∨ l.length + m.length ≤ i) → I' (tR τ s 0) i = I (tR τ s 0) i) (hc : ∀ c ∈ m, c < 128) (hn : ∀ i (h : i < m.length), I' (tR τ s 0) (l.length + i) = iN m[i]) : R_B I' τ s Z (l ++ m) := by
  obtain ⟨s70, sZ, hZ, g1, g2, g3, v, n, h4, h5, h6, h7, h8, h9, hv, gi, gl⟩ := hR
  rw [h4, h5] at hm hi
  rw [h4] at hn
  have hm : l.length + m.length ≤ n := hm
  have hi : ∀ i, i < n → (i < l.length ∨ l.length + m.length ≤ i) → I' v i = I v i := hi
  refine ⟨s70, sZ, hZ, g1, by rw [h1]; exact g2, by rw [List.length_append]; exact h3, v, n, h4, h5, by rw [List.length_append]; exact hm, h7, h8, h9, hv, fun i hi2 => ?_, fun i hi2 => ?_⟩
  · by_cases q : i < l.length ∨ l.length + m.length ≤ i
    · rw [hi i hi2 q]; exact gi i hi2
    · have e := hn (i - l.length) (by omega)
      rw [show l.length + (i - l.length) = i by omega] at e
      exact ⟨_, hc _ (List.getElem_mem _), e⟩
  · rw [List.length_append] at hi2
    by_cases q : i < l.length
    · rw [hi i (by omega) (Or.inl q), List.getElem_append_left q]
      exact gl i q
    · have e := hn (i - l.length) (by omega)
      rw [show l.length + (i - l.length) = i by omega] at e
      rw [e, List.getElem_append_right (by omega)]
theorem c_signLatin {c : Nat} (hc : c < 128) : CC d 11 [.int (iN c)] (I, τ) = some (.inl (some (.int (iN 1))), (I, τ)) := by
  have q : ¬ 255 < c := by omega
  rw [c_11, b_11_0]
  simp (disch := omega) only [rd_I_mk, rd_R_mk, rd_L_mk, rd_D_mk, kd_mk, wr_I_mk, cp_mk, gd_true, bd_ret, bd_thr, vl_none, vl_some, iN_add, iN_mul, iN_sub, iN_lt, iN_eq, iN_n, iN_m1, iN_pred, vp_iN, K0_le, nr_b0, nr_b1, m1_lt, lt_m1, iN_ne_m1, m1_ne_iN, not_lt_z, true_and, and_true, and_self, or_true, true_or, or_false, false_or, if_true, if_false, ↓reduceIte, eq_self, up_at, up_a, up_k, cp_c, cp_b, Nat.zero_add, Nat.add_zero, Nat.sub_zero, Nat.le_refl, Nat.add_sub_cancel, fu_at, fu_ne, iN_nz, n10_f, n01_f, ofN, qq_at_100, k110b, Nat.lt_irrefl, Nat.not_lt_zero, ne_eq, not_false_eq_true, not_true_eq_false, q, b_11_6]
theorem c_appendChar (hR : R_B I τ s Z l) (hl : l.length ≤ 60) {c : Nat} (hc : c < 128) :
    ∃ I' τ', CC (d + 4) 2 [.ref s, .int (iN c)] (I, τ) = some (.inl (some (.ref s)), (I', τ')) ∧ PB I τ s Z 1 I' τ' (l ++ [c]) := by
  have hR0 := hR
  obtain ⟨s70, sZ, hZ, h1, h2, h3, v0, n0, h4, -, -, -, -, -, hv0, -, -⟩ := hR
  obtain ⟨J, ρ, e1, e2, e3, e4, e5, e6, e7, e8⟩ := c_ensure (d := d) hR0 (k := l.length + 1) (by omega)
  have e2' := e2
  obtain ⟨-, -, -, g1, g2, g3, v, n, g4, g5, g6, g7, g8, g9, hv, gi, gl⟩ := e2
  rw [g4, g5] at e3
  have e3 : l.length + 1 ≤ n := e3
  have f4 := c_isLatin (d := d + 2) (I := J) g1 g2
  have f11 := c_signLatin (d := d + 2) (I := J) (τ := ρ) hc
  have hsv : s ≠ v := by omega
  have hv70 : 70 ≤ v := by omega
  have hb := by_b c hc
  refine ⟨up_2 (up_2 J s 3 (iN (l.length + 1))) v l.length (iN c), ρ, ?_, ?_, ?_, e6, by omega, ?_⟩
  · have f3 : CC (d + 3) 3 [.ref s, .int (iN c)] (I, τ) = some (.inl (some (.ref s)), (up_2 (up_2 J s 3 (iN (l.length + 1))) v l.length (iN c), ρ)) := by
      rw [c_3, b_3_0]
      simp (disch := omega) only [rd_I_mk, rd_R_mk, rd_L_mk, rd_D_mk, kd_mk, wr_I_mk, cp_mk, gd_true, bd_ret, bd_thr, vl_none, vl_some, iN_add, iN_mul, iN_sub, iN_lt, iN_eq, iN_n, iN_m1, iN_pred, vp_iN, K0_le, nr_b0, nr_b1, m1_lt, lt_m1, iN_ne_m1, m1_ne_iN, not_lt_z, true_and, and_true, and_self, or_true, true_or, or_false, false_or, if_true, if_false, ↓reduceIte, eq_self, up_at, up_a, up_k, cp_c, cp_b, Nat.zero_add, Nat.add_zero, Nat.sub_zero, Nat.le_refl, Nat.add_sub_cancel, fu_at, fu_ne, iN_nz, n10_f, n01_f, ofN, qq_at_100, k110b, Nat.lt_irrefl, Nat.not_lt_zero, ne_eq, not_false_eq_true, not_true_eq_false, h1, h3, e1, b_3_6, f4, b_3_8, f11, b_3_11, g1, g3, g4, b_3_21, g5, n102_101, hb, b_3_24]
    rw [c_2, b_2_0]
    simp (disch := omega) only [rd_I_mk, rd_R_mk, rd_L_mk, rd_D_mk, kd_mk, wr_I_mk, cp_mk, gd_true, bd_ret, bd_thr, vl_none, vl_some, iN_add, iN_mul, iN_sub, iN_lt, iN_eq, iN_n, iN_m1, iN_pred, vp_iN, K0_le, nr_b0, nr_b1, m1_lt, lt_m1, iN_ne_m1, m1_ne_iN, not_lt_z, true_and, and_true, and_self, or_true, true_or, or_false, false_or, if_true, if_false, ↓reduceIte, eq_self, up_at, up_a, up_k, cp_c, cp_b, Nat.zero_add, Nat.add_zero, Nat.sub_zero, Nat.le_refl, Nat.add_sub_cancel, fu_at, fu_ne, iN_nz, n10_f, n01_f, ofN, qq_at_100, k110b, Nat.lt_irrefl, Nat.not_lt_zero, ne_eq, not_false_eq_true, not_true_eq_false, h1, f3, b_2_3]
  · refine RB_ext e2' (by rw [g4, g5]; exact e3) (by rw [up_c hsv, up_k (by omega)]) (by rw [up_c hsv, up_at]; rfl) (fun i hi hi2 => ?_) (fun x hx => by rw [List.mem_singleton] at hx; omega) (fun i hi => ?_)
    · rw [g4]
      have hi2 : i < l.length ∨ l.length + 1 ≤ i := hi2
      rw [up_k (by omega), up_c (by omega)]
    · have hi : i < 1 := hi
      have hi0 : i = 0 := by omega
      subst hi0
      rw [g4]
      exact up_at
  · refine Gf_tr (Gf_wd (B := fun a => a = s ∨ a = tR τ s 0) e4 (fun a _ z => Or.inl z)) (Gf_tr (Gf_up (A := fun a => a = s ∨ a = v) (a := s) (Or.inl rfl)) (Gf_up (A := fun a => a = s ∨ a = v) (a := v) (Or.inr rfl)) (fun _ _ z => z) (fun _ _ z => z)) (fun _ _ z => z) (fun a ha z => ?_)
    rcases z with z | z
    · exact Or.inl z
    · rw [g4] at e8
      rcases e8 with e | e
      · exact Or.inr (by rw [z, e])
      · omega
  · rw [g4] at e8 ⊢
    rcases e8 with e | e
    · exact Or.inl e
    · exact Or.inr (by omega)
theorem c_appendInt (hK : KD I τ) (hR : R_B I τ s Z l) {n : Nat} (hn : n < 1000000) (hl : l.length + (dg n).length ≤ 61) :
    ∃ I' τ', CC (d + 4) 19 [.ref s, .int (iN n)] (I, τ) = some (.inl (some (.ref s)), (I', τ')) ∧ PB I τ s Z 1 I' τ' (l ++ dg n) := by
  have hR0 := hR
  obtain ⟨s70, sZ, hZ, h1, h2, h3, v0, n0, h4, -, -, -, -, -, hv0, -, -⟩ := hR
  obtain ⟨J, ρ, e1, e2, e3, e4, e5, e6, e7, e8⟩ := c_ensure (d := d) hR0 (k := l.length + (dg n).length) hl
  have e2' := e2
  obtain ⟨-, -, -, g1, g2, g3, v, N, g4, g5, g6, g7, g8, g9, hv, gi, gl⟩ := e2
  rw [g4, g5] at e3
  have e3 : l.length + (dg n).length ≤ N := e3
  have f4 := c_isLatin (d := d + 2) (I := J) g1 g2
  have f21 := c_stringSize (d := d + 2) (I := I) (τ := τ) hn
  have hsv : s ≠ v := by omega
  have hv70 : 70 ≤ v := by omega
  have hKJ : KD J ρ := by
    obtain ⟨a1, a2, a3, a4⟩ := hK
    have j8 : J 68 = I 68 := Gf_II e4 (by omega) (by omega)
    have j9 : J 69 = I 69 := Gf_II e4 (by omega) (by omega)
    exact ⟨(Gf_K e4 (by omega)).trans a1, (Gf_K e4 (by omega)).trans a2, fun i hi => by rw [j8]; exact a3 i hi, fun i hi => by rw [j9]; exact a4 i hi⟩
  obtain ⟨K, x, t1, t2, t3, t4⟩ := c_getChars (d := d + 2) hKJ hv70 g5 (by omega) (n := n) (e := l.length + (dg n).length) hn (Nat.le_add_left _ _) e3
  rw [Nat.add_sub_cancel] at t3 t4
  have ks : K s = J s := t2 s hsv
  refine ⟨up_2 K s 3 (iN (l.length + (dg n).length)), ρ, ?_, ?_, ?_, e6, by omega, ?_⟩
  · have f20 : CC (d + 3) 20 [.ref s, .int (iN n)] (I, τ) = some (.inl (some (.ref s)), (up_2 K s 3 (iN (l.length + (dg n).length)), ρ)) := by
      rw [c_20, b_20_0]
      simp (disch := omega) only [rd_I_mk, rd_R_mk, rd_L_mk, rd_D_mk, kd_mk, wr_I_mk, cp_mk, gd_true, bd_ret, bd_thr, vl_none, vl_some, iN_add, iN_mul, iN_sub, iN_lt, iN_eq, iN_n, iN_m1, iN_pred, vp_iN, K0_le, nr_b0, nr_b1, m1_lt, lt_m1, iN_ne_m1, m1_ne_iN, not_lt_z, true_and, and_true, and_self, or_true, true_or, or_false, false_or, if_true, if_false, ↓reduceIte, eq_self, up_at, up_a, up_k, cp_c, cp_b, Nat.zero_add, Nat.add_zero, Nat.sub_zero, Nat.le_refl, Nat.add_sub_cancel, fu_at, fu_ne, iN_nz, n10_f, n01_f, ofN, qq_at_100, k110b, Nat.lt_irrefl, Nat.not_lt_zero, ne_eq, not_false_eq_true, not_true_eq_false, h1, h3, f21, b_20_6, e1, b_20_11, f4, b_20_13, g1, g4, t1, b_20_19, b_20_31]
    rw [c_19, b_19_0]
    simp (disch := omega) only [rd_I_mk, rd_R_mk, rd_L_mk, rd_D_mk, kd_mk, wr_I_mk, cp_mk, gd_true, bd_ret, bd_thr, vl_none, vl_some, iN_add, iN_mul, iN_sub, iN_lt, iN_eq, iN_n, iN_m1, iN_pred, vp_iN, K0_le, nr_b0, nr_b1, m1_lt, lt_m1, iN_ne_m1, m1_ne_iN, not_lt_z, true_and, and_true, and_self, or_true, true_or, or_false, false_or, if_true, if_false, ↓reduceIte, eq_self, up_at, up_a, up_k, cp_c, cp_b, Nat.zero_add, Nat.add_zero, Nat.sub_zero, Nat.le_refl, Nat.add_sub_cancel, fu_at, fu_ne, iN_nz, n10_f, n01_f, ofN, qq_at_100, k110b, Nat.lt_irrefl, Nat.not_lt_zero, ne_eq, not_false_eq_true, not_true_eq_false, h1, f20, b_19_3]
  · refine RB_ext e2' (by rw [g4, g5]; exact e3) (by rw [up_k (by omega), ks]) up_at (fun i hi hi2 => ?_) (fun x hx => by have := dg_c n x hx; omega) (fun i hi => ?_)
    · rw [g4, g5] at hi
      rw [g4, up_c (by omega)]
      exact t3 i hi hi2
    · rw [g4, up_c (by omega)]
      exact t4 i hi
  · refine Gf_tr (Gf_wd (B := fun a => a = s ∨ a = tR τ s 0) e4 (fun a _ z => Or.inl z)) (Gf_tr (Gf_I (A := fun a => a = s ∨ a = v) (fun a ha => t2 a (fun z => ha (Or.inr z)))) (Gf_up (A := fun a => a = s ∨ a = v) (a := s) (Or.inl rfl)) (fun _ _ z => z) (fun _ _ z => z)) (fun _ _ z => z) (fun a ha z => ?_)
    rcases z with z | z
    · exact Or.inl z
    · rw [g4] at e8
      rcases e8 with e | e
      · exact Or.inr (by rw [z, e])
      · omega
  · rw [g4] at e8 ⊢
    rcases e8 with e | e
    · exact Or.inl e
    · exact Or.inr (by omega)
theorem c_length (hR : R_B I τ s Z l) : CC (d + 1) 23 [.ref s] (I, τ) = some (.inl (some (.int (iN l.length))), (I, τ)) := by
  obtain ⟨s70, sZ, hZ, h1, h2, h3, -⟩ := hR
  have f : CC d 24 [.ref s] (I, τ) = some (.inl (some (.int (iN l.length))), (I, τ)) := by
    rw [c_24, b_24_0]
    simp (disch := omega) only [rd_I_mk, rd_R_mk, rd_L_mk, rd_D_mk, kd_mk, wr_I_mk, cp_mk, gd_true, bd_ret, bd_thr, vl_none, vl_some, iN_add, iN_mul, iN_sub, iN_lt, iN_eq, iN_n, iN_m1, iN_pred, vp_iN, K0_le, nr_b0, nr_b1, m1_lt, lt_m1, iN_ne_m1, m1_ne_iN, not_lt_z, true_and, and_true, and_self, or_true, true_or, or_false, false_or, if_true, if_false, ↓reduceIte, eq_self, up_at, up_a, up_k, cp_c, cp_b, Nat.zero_add, Nat.add_zero, Nat.sub_zero, Nat.le_refl, Nat.add_sub_cancel, fu_at, fu_ne, iN_nz, n10_f, n01_f, ofN, qq_at_100, k110b, Nat.lt_irrefl, Nat.not_lt_zero, ne_eq, not_false_eq_true, not_true_eq_false, h1, h3]
  rw [c_23, b_23_0]
  simp (disch := omega) only [rd_I_mk, rd_R_mk, rd_L_mk, rd_D_mk, kd_mk, wr_I_mk, cp_mk, gd_true, bd_ret, bd_thr, vl_none, vl_some, iN_add, iN_mul, iN_sub, iN_lt, iN_eq, iN_n, iN_m1, iN_pred, vp_iN, K0_le, nr_b0, nr_b1, m1_lt, lt_m1, iN_ne_m1, m1_ne_iN, not_lt_z, true_and, and_true, and_self, or_true, true_or, or_false, false_or, if_true, if_false, ↓reduceIte, eq_self, up_at, up_a, up_k, cp_c, cp_b, Nat.zero_add, Nat.add_zero, Nat.sub_zero, Nat.le_refl, Nat.add_sub_cancel, fu_at, fu_ne, iN_nz, n10_f, n01_f, ofN, qq_at_100, k110b, Nat.lt_irrefl, Nat.not_lt_zero, ne_eq, not_false_eq_true, not_true_eq_false, h1, f, b_23_2]
theorem c_setLength (hR : R_B I τ s Z l) (hl : l.length ≤ 200) :
    ∃ I' τ', CC (d + 4) 25 [.ref s, .int (iN 0)] (I, τ) = some (.inl none, (I', τ')) ∧ PB I τ s Z 1 I' τ' [] := by
  have hR0 := hR
  obtain ⟨s70, sZ, hZ, h1, h2, h3, v0, n0, h4, -, -, -, -, -, hv0, -, -⟩ := hR
  obtain ⟨J, ρ, e1, e2, e3, e4, e5, e6, e7, e8⟩ := c_ensure (d := d) hR0 (k := 0) (by omega)
  have e2' := e2
  obtain ⟨-, -, hZ', g1, g2, g3, v, n, g4, g5, g6, g7, g8, g9, hv, gi, gl⟩ := e2
  have hsv : s ≠ v := by omega
  have key : ∀ K : qq_I, (∀ a, a ≠ s → K a = J a) → K s 1 = J s 1 → K s 3 = iN 0 → PB I τ s Z 1 K ρ [] := fun K k1 k2 k3 => by
    refine ⟨⟨s70, sZ, hZ', g1, by rw [k2]; exact g2, k3, v, n, g4, g5, Nat.zero_le _, g7, g8, g9, hv, fun i hi => by rw [k1 v (fun z => hsv z.symm)]; exact gi i hi, fun i hi => absurd hi (Nat.not_lt_zero _)⟩, ?_, e6, by omega, ?_⟩
    · exact Gf_tr (Gf_wd (B := fun a => a = s ∨ a = tR τ s 0) e4 (fun a _ z => Or.inl z)) (Gf_I (A := fun a => a = s ∨ a = tR τ s 0) (fun a ha => k1 a (fun z => ha (Or.inl z)))) (fun _ _ z => z) (fun _ _ z => z)
    · rw [g4] at e8 ⊢
      rcases e8 with e | e
      · exact Or.inl e
      · exact Or.inr (by omega)
  by_cases q : 0 < l.length
  · refine ⟨up_2 (up_2 J s 2 (iN 1)) s 3 (iN 0), ρ, ?_, key _ (fun a ha => by rw [up_c ha, up_c ha]) (by rw [up_k (by omega), up_k (by omega)]) up_at⟩
    have f26 : CC (d + 3) 26 [.ref s, .int (iN 0)] (I, τ) = some (.inl none, (up_2 (up_2 J s 2 (iN 1)) s 3 (iN 0), ρ)) := by
      rw [c_26, b_26_0]
      simp (disch := omega) only [rd_I_mk, rd_R_mk, rd_L_mk, rd_D_mk, kd_mk, wr_I_mk, cp_mk, gd_true, bd_ret, bd_thr, vl_none, vl_some, iN_add, iN_mul, iN_sub, iN_lt, iN_eq, iN_n, iN_m1, iN_pred, vp_iN, K0_le, nr_b0, nr_b1, m1_lt, lt_m1, iN_ne_m1, m1_ne_iN, not_lt_z, true_and, and_true, and_self, or_true, true_or, or_false, false_or, if_true, if_false, ↓reduceIte, eq_self, up_at, up_a, up_k, cp_c, cp_b, Nat.zero_add, Nat.add_zero, Nat.sub_zero, Nat.le_refl, Nat.add_sub_cancel, fu_at, fu_ne, iN_nz, n10_f, n01_f, ofN, qq_at_100, k110b, Nat.lt_irrefl, Nat.not_lt_zero, ne_eq, not_false_eq_true, not_true_eq_false, h1, e1, b_26_10, g1, g3, q, nk_b1, b_26_38, b_26_41]
    rw [c_25, b_25_0]
    simp (disch := omega) only [rd_I_mk, rd_R_mk, rd_L_mk, rd_D_mk, kd_mk, wr_I_mk, cp_mk, gd_true, bd_ret, bd_thr, vl_none, vl_some, iN_add, iN_mul, iN_sub, iN_lt, iN_eq, iN_n, iN_m1, iN_pred, vp_iN, K0_le, nr_b0, nr_b1, m1_lt, lt_m1, iN_ne_m1, m1_ne_iN, not_lt_z, true_and, and_true, and_self, or_true, true_or, or_false, false_or, if_true, if_false, ↓reduceIte, eq_self, up_at, up_a, up_k, cp_c, cp_b, Nat.zero_add, Nat.add_zero, Nat.sub_zero, Nat.le_refl, Nat.add_sub_cancel, fu_at, fu_ne, iN_nz, n10_f, n01_f, ofN, qq_at_100, k110b, Nat.lt_irrefl, Nat.not_lt_zero, ne_eq, not_false_eq_true, not_true_eq_false, h1, f26, b_25_3]
  · have q0 : l.length = 0 := by omega
    rw [q0] at g3
    refine ⟨up_2 J s 3 (iN 0), ρ, ?_, key _ (fun a ha => by rw [up_c ha]) (by rw [up_k (by omega)]) up_at⟩
    have f26 : CC (d + 3) 26 [.ref s, .int (iN 0)] (I, τ) = some (.inl none, (up_2 J s 3 (iN 0), ρ)) := by
      rw [c_26, b_26_0]
      simp (disch := omega) only [rd_I_mk, rd_R_mk, rd_L_mk, rd_D_mk, kd_mk, wr_I_mk, cp_mk, gd_true, bd_ret, bd_thr, vl_none, vl_some, iN_add, iN_mul, iN_sub, iN_lt, iN_eq, iN_n, iN_m1, iN_pred, vp_iN, K0_le, nr_b0, nr_b1, m1_lt, lt_m1, iN_ne_m1, m1_ne_iN, not_lt_z, true_and, and_true, and_self, or_true, true_or, or_false, false_or, if_true, if_false, ↓reduceIte, eq_self, up_at, up_a, up_k, cp_c, cp_b, Nat.zero_add, Nat.add_zero, Nat.sub_zero, Nat.le_refl, Nat.add_sub_cancel, fu_at, fu_ne, iN_nz, n10_f, n01_f, ofN, qq_at_100, k110b, Nat.lt_irrefl, Nat.not_lt_zero, ne_eq, not_false_eq_true, not_true_eq_false, h1, e1, b_26_10, g1, g3, b_26_38, b_26_41]
    rw [c_25, b_25_0]
    simp (disch := omega) only [rd_I_mk, rd_R_mk, rd_L_mk, rd_D_mk, kd_mk, wr_I_mk, cp_mk, gd_true, bd_ret, bd_thr, vl_none, vl_some, iN_add, iN_mul, iN_sub, iN_lt, iN_eq, iN_n, iN_m1, iN_pred, vp_iN, K0_le, nr_b0, nr_b1, m1_lt, lt_m1, iN_ne_m1, m1_ne_iN, not_lt_z, true_and, and_true, and_self, or_true, true_or, or_false, false_or, if_true, if_false, ↓reduceIte, eq_self, up_at, up_a, up_k, cp_c, cp_b, Nat.zero_add, Nat.add_zero, Nat.sub_zero, Nat.le_refl, Nat.add_sub_cancel, fu_at, fu_ne, iN_nz, n10_f, n01_f, ofN, qq_at_100, k110b, Nat.lt_irrefl, Nat.not_lt_zero, ne_eq, not_false_eq_true, not_true_eq_false, h1, f26, b_25_3]
theorem c_checkIndex {i n : Nat} (hi : i < n) (hn : n < 1000000) : CC (d + 1) 29 [.int (iN i), .int (iN n)] (I, τ) = some (.inl none, (I, τ)) := by
  have f : CC d 30 [.int (iN i), .int (iN n), .ref 2] (I, τ) = some (.inl (some (.int (iN i))), (I, τ)) := by
    rw [c_30, b_30_0]
    simp (disch := omega) only [rd_I_mk, rd_R_mk, rd_L_mk, rd_D_mk, kd_mk, wr_I_mk, cp_mk, gd_true, bd_ret, bd_thr, vl_none, vl_some, iN_add, iN_mul, iN_sub, iN_lt, iN_eq, iN_n, iN_m1, iN_pred, vp_iN, K0_le, nr_b0, nr_b1, m1_lt, lt_m1, iN_ne_m1, m1_ne_iN, not_lt_z, true_and, and_true, and_self, or_true, true_or, or_false, false_or, if_true, if_false, ↓reduceIte, eq_self, up_at, up_a, up_k, cp_c, cp_b, Nat.zero_add, Nat.add_zero, Nat.sub_zero, Nat.le_refl, Nat.add_sub_cancel, fu_at, fu_ne, iN_nz, n10_f, n01_f, ofN, qq_at_100, k110b, Nat.lt_irrefl, Nat.not_lt_zero, ne_eq, not_false_eq_true, not_true_eq_false, hi]
  rw [c_29, b_29_0]
  simp (disch := omega) only [rd_I_mk, rd_R_mk, rd_L_mk, rd_D_mk, kd_mk, wr_I_mk, cp_mk, gd_true, bd_ret, bd_thr, vl_none, vl_some, iN_add, iN_mul, iN_sub, iN_lt, iN_eq, iN_n, iN_m1, iN_pred, vp_iN, K0_le, nr_b0, nr_b1, m1_lt, lt_m1, iN_ne_m1, m1_ne_iN, not_lt_z, true_and, and_true, and_self, or_true, true_or, or_false, false_or, if_true, if_false, ↓reduceIte, eq_self, up_at, up_a, up_k, cp_c, cp_b, Nat.zero_add, Nat.add_zero, Nat.sub_zero, Nat.le_refl, Nat.add_sub_cancel, fu_at, fu_ne, iN_nz, n10_f, n01_f, ofN, qq_at_100, k110b, Nat.lt_irrefl, Nat.not_lt_zero, ne_eq, not_false_eq_true, not_true_eq_false, f, b_29_4]
theorem c_charAt (hR : R_B I τ s Z l) (hc : ∀ c ∈ l, c < 128) {i : Nat} (hi : i < l.length) : CC (d + 3) 27 [.ref s, .int (iN i)] (I, τ) = some (.inl (some (.int (iN l[i]))), (I, τ)) := by
  obtain ⟨s70, sZ, hZ, h1, h2, h3, v, n, g4, g5, g6, g7, g8, g9, hv, gi, gl⟩ := hR
  have hci := hc l[i] (List.getElem_mem _)
  have f29 := c_checkIndex (d := d) (I := I) (τ := τ) hi (by omega)
  have e1 : (if n < l.length then iN n else iN l.length) = iN l.length := if_neg (by omega)
  have gli := gl i hi
  have hch := ch_b l[i] hci
  have f28 : CC (d + 2) 28 [.ref s, .int (iN i)] (I, τ) = some (.inl (some (.int (iN l[i]))), (I, τ)) := by
    rw [c_28, b_28_0]
    simp (disch := omega) only [rd_I_mk, rd_R_mk, rd_L_mk, rd_D_mk, kd_mk, wr_I_mk, cp_mk, gd_true, bd_ret, bd_thr, vl_none, vl_some, iN_add, iN_mul, iN_sub, iN_lt, iN_eq, iN_n, iN_m1, iN_pred, vp_iN, K0_le, nr_b0, nr_b1, m1_lt, lt_m1, iN_ne_m1, m1_ne_iN, not_lt_z, true_and, and_true, and_self, or_true, true_or, or_false, false_or, if_true, if_false, ↓reduceIte, eq_self, up_at, up_a, up_k, cp_c, cp_b, Nat.zero_add, Nat.add_zero, Nat.sub_zero, Nat.le_refl, Nat.add_sub_cancel, fu_at, fu_ne, iN_nz, n10_f, n01_f, ofN, qq_at_100, k110b, Nat.lt_irrefl, Nat.not_lt_zero, ne_eq, not_false_eq_true, not_true_eq_false, h1, h2, h3, g4, g5, qq_at_102, shr_z, e1, f29, b_28_17, gli, hch, nr_ch, n102_101]
  rw [c_27, b_27_0]
  simp (disch := omega) only [rd_I_mk, rd_R_mk, rd_L_mk, rd_D_mk, kd_mk, wr_I_mk, cp_mk, gd_true, bd_ret, bd_thr, vl_none, vl_some, iN_add, iN_mul, iN_sub, iN_lt, iN_eq, iN_n, iN_m1, iN_pred, vp_iN, K0_le, nr_b0, nr_b1, m1_lt, lt_m1, iN_ne_m1, m1_ne_iN, not_lt_z, true_and, and_true, and_self, or_true, true_or, or_false, false_or, if_true, if_false, ↓reduceIte, eq_self, up_at, up_a, up_k, cp_c, cp_b, Nat.zero_add, Nat.add_zero, Nat.sub_zero, Nat.le_refl, Nat.add_sub_cancel, fu_at, fu_ne, iN_nz, n10_f, n01_f, ofN, qq_at_100, k110b, Nat.lt_irrefl, Nat.not_lt_zero, ne_eq, not_false_eq_true, not_true_eq_false, h1, f28, b_27_3, nr_ch]
end AQ
