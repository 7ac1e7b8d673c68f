/-! THE MODEL: rendering, the line, the tape -/
/-- a line being written -/
def WL (m : Nat) (I J : qq_I) (l : List Nat) : Prop := J m 14 = iN l.length ∧ (∀ i (h : i < l.length), J (m + 7) i = iN l[i]) ∧ (∀ a, a ≠ m → a ≠ m + 7 → J a = I a) ∧ (∀ k, k ≠ 14 → J m k = I m k)
section MRE
variable {d : Nat} {I J : qq_I} {τ : qq_R} {m B : Nat} {S : sS} {l : List Nat}
theorem WL_0 : WL m I (up_2 I m 14 (iN 0)) [] := ⟨up_at, fun i h => absurd h (Nat.not_lt_zero _), fun a h1 h2 => up_c h1, fun k hk => up_k hk⟩
theorem c_writes (hL : L_N τ m) (hW : WL m I J l) (hl : l.length < 60) {x : Nat} : ∃ J', CC d 304 [.ref m, .int (iN x)] (J, τ) = some (.inl none, (J', τ)) ∧ WL m I J' (l ++ [x]) := by
  obtain ⟨m70, k0, r0, r1, r2, r3, r4, r5, r6, r7, r8, g1, g2, g3, g4, g5, g6, g7, g8, -⟩ := hL
  obtain ⟨h1, h2, h3, h4⟩ := hW
  refine ⟨up_2 (up_2 J (m + 7) l.length (iN x)) m 14 (iN (l.length + 1)), ?_, ?_, fun i hi => ?_, fun a a1 a2 => by rw [up_c a1, up_c a2]; exact h3 a a1 a2, fun k hk => by rw [up_k hk, up_c (by omega)]; exact h4 k hk⟩
  · have e : up_2 J (m + 7) l.length (iN x) m 14 = iN l.length := by rw [up_c (by omega)]; exact h1
    rw [c_304, b_304_0]
    simp (disch := omega) only [rd_I_mk, rd_R_mk, rd_L_mk, rd_D_mk, kd_mk, wr_I_mk, cp_mk, gd_true, bd_ret, bd_thr, vl_none, vl_some, iN_add, iN_mul, iN_sub, iN_lt, iN_eq, iN_n, iN_m1, iN_pred, vp_iN, K0_le, nr_b0, nr_b1, m1_lt, lt_m1, iN_ne_m1, m1_ne_iN, not_lt_z, true_and, and_true, and_self, or_true, true_or, or_false, false_or, if_true, if_false, ↓reduceIte, eq_self, up_at, up_a, up_k, cp_c, cp_b, Nat.zero_add, Nat.add_zero, Nat.sub_zero, Nat.le_refl, Nat.add_sub_cancel, fu_at, fu_ne, iN_nz, n10_f, n01_f, ofN, qq_at_100, k110b, Nat.lt_irrefl, Nat.not_lt_zero, ne_eq, not_false_eq_true, not_true_eq_false, k0, r6, g7, h1, b_304_6, e, b_304_12]
  · rw [up_at, List.length_append]; rfl
  · rw [List.length_append] at hi
    have hi : i < l.length + 1 := hi
    rw [up_c (by omega)]
    by_cases y : i < l.length
    · rw [up_k (by omega), List.getElem_append_left y]; exact h2 i y
    · have y : i = l.length := by omega
      subst y
      rw [up_at, List.getElem_append_right (Nat.le_refl _)]
      simp
theorem c_digits (hL : L_N τ m) : ∀ k n (l : List Nat) (J : qq_I), n < 10 ^ (k + 1) → k ≤ 5 → WL m I J l → l.length + (dg n).length ≤ 60 → ∃ J', CC (d + k + 1) 305 [.ref m, .int (iN n)] (J, τ) = some (.inl none, (J', τ)) ∧ WL m I J' (l ++ dg n) := by
  have k0 := hL.2.1
  have ten : ((¬ iN 10 = 0) : Prop) = True := eq_true (by decide)
  intro k
  induction k with
  | zero =>
    intro n l J hn _ hW hl
    have hn : n < 10 := hn
    rw [dg_s hn] at hl ⊢
    have hl : l.length + 1 ≤ 60 := hl
    obtain ⟨J', t1, t2⟩ := c_writes (d := d) hL hW (by omega) (x := 48 + n)
    refine ⟨J', ?_, t2⟩
    have e1 : iN n / iN 10 = iN (n / 10) := iN_div (by omega) (by omega)
    have e2 : n / 10 = 0 := by omega
    rw [c_305, b_305_0]
    simp (disch := omega) only [rd_I_mk, rd_R_mk, rd_L_mk, rd_D_mk, kd_mk, wr_I_mk, cp_mk, gd_true, bd_ret, bd_thr, vl_none, vl_some, iN_add, iN_mul, iN_sub, iN_lt, iN_eq, iN_n, iN_m1, iN_pred, vp_iN, K0_le, nr_b0, nr_b1, m1_lt, lt_m1, iN_ne_m1, m1_ne_iN, not_lt_z, true_and, and_true, and_self, or_true, true_or, or_false, false_or, if_true, if_false, ↓reduceIte, eq_self, up_at, up_a, up_k, cp_c, cp_b, Nat.zero_add, Nat.add_zero, Nat.sub_zero, Nat.le_refl, Nat.add_sub_cancel, fu_at, fu_ne, iN_nz, n10_f, n01_f, ofN, qq_at_100, k110b, Nat.lt_irrefl, Nat.not_lt_zero, ne_eq, not_false_eq_true, not_true_eq_false, hn, b_305_8, ten, e1, e2, Nat.zero_mul, Nat.sub_zero, k0, t1, b_305_15]
  | succ k ih =>
    intro n l J hn hk hW hl
    have hn6 : n < 1000000 := by
      have : (10 : Nat) ^ (k + 1 + 1) ≤ 10 ^ 6 := Nat.pow_le_pow_right (by omega) (by omega)
      omega
    have e1 : iN n / iN 10 = iN (n / 10) := iN_div (by omega) (by omega)
    by_cases y : n < 10
    · rw [dg_s y] at hl ⊢
      have hl : l.length + 1 ≤ 60 := hl
      obtain ⟨J', t1, t2⟩ := c_writes (d := d + (k + 1)) hL hW (by omega) (x := 48 + n)
      refine ⟨J', ?_, t2⟩
      have e2 : n / 10 = 0 := by omega
      rw [c_305, b_305_0]
      simp (disch := omega) only [rd_I_mk, rd_R_mk, rd_L_mk, rd_D_mk, kd_mk, wr_I_mk, cp_mk, gd_true, bd_ret, bd_thr, vl_none, vl_some, iN_add, iN_mul, iN_sub, iN_lt, iN_eq, iN_n, iN_m1, iN_pred, vp_iN, K0_le, nr_b0, nr_b1, m1_lt, lt_m1, iN_ne_m1, m1_ne_iN, not_lt_z, true_and, and_true, and_self, or_true, true_or, or_false, false_or, if_true, if_false, ↓reduceIte, eq_self, up_at, up_a, up_k, cp_c, cp_b, Nat.zero_add, Nat.add_zero, Nat.sub_zero, Nat.le_refl, Nat.add_sub_cancel, fu_at, fu_ne, iN_nz, n10_f, n01_f, ofN, qq_at_100, k110b, Nat.lt_irrefl, Nat.not_lt_zero, ne_eq, not_false_eq_true, not_true_eq_false, y, b_305_8, ten, e1, e2, Nat.zero_mul, Nat.sub_zero, k0, t1, b_305_15]
    · rw [dg_l y] at hl ⊢
      rw [List.length_append, List.length_singleton] at hl
      obtain ⟨J1, s1, s2⟩ := ih (n / 10) l J (by rw [Nat.pow_succ] at hn; omega) (by omega) hW (by omega)
      have hl2 : (l ++ dg (n / 10)).length < 60 := by rw [List.length_append]; omega
      obtain ⟨J', t1, t2⟩ := c_writes (d := d + (k + 1)) hL s2 hl2 (x := 48 + n % 10)
      refine ⟨J', ?_, by rw [← List.append_assoc]; exact t2⟩
      have e2 : n / 10 * 10 ≤ n := by omega
      have e3 : n - n / 10 * 10 = n % 10 := by omega
      have s1 : CC (d + (k + 1)) 305 [.ref m, .int (iN (n / 10))] (J, τ) = some (.inl none, (J1, τ)) := s1
      rw [c_305, b_305_0]
      simp (disch := omega) only [rd_I_mk, rd_R_mk, rd_L_mk, rd_D_mk, kd_mk, wr_I_mk, cp_mk, gd_true, bd_ret, bd_thr, vl_none, vl_some, iN_add, iN_mul, iN_sub, iN_lt, iN_eq, iN_n, iN_m1, iN_pred, vp_iN, K0_le, nr_b0, nr_b1, m1_lt, lt_m1, iN_ne_m1, m1_ne_iN, not_lt_z, true_and, and_true, and_self, or_true, true_or, or_false, false_or, if_true, if_false, ↓reduceIte, eq_self, up_at, up_a, up_k, cp_c, cp_b, Nat.zero_add, Nat.add_zero, Nat.sub_zero, Nat.le_refl, Nat.add_sub_cancel, fu_at, fu_ne, iN_nz, n10_f, n01_f, ofN, qq_at_100, k110b, Nat.lt_irrefl, Nat.not_lt_zero, ne_eq, not_false_eq_true, not_true_eq_false, y, ten, e1, k0, s1, b_305_8, e2, e3, t1, b_305_15]
theorem WL_S (hW : WL m I J l) : J (m + 1) = I (m + 1) := hW.2.2.1 _ (by omega) (by omega)
end MRE
section MRE2
variable {d : Nat} {I J : qq_I} {τ : qq_R} {m B : Nat} {C : sC} {l : List Nat}
/-- the line is written -/
theorem PN_out (h : R_N I τ m B C) (hW : WL m (up_2 I m 7 (iN 0)) J l) (hl : l.length ≤ 60) (hc : ∀ x ∈ l, x < 128) : PN m I J τ B 0 (cO C l) := by
  obtain ⟨w1, w2, w3, w4⟩ := hW
  have ho : ∀ a, a ≠ m → a ≠ m + 7 → J a = I a := fun a h1 h2 => by rw [w3 a h1 h2, up_c h1]
  have hm : ∀ k, k ≠ 14 → k ≠ 7 → J m k = I m k := fun k h1 h2 => by rw [w4 k h1, up_k h2]
  obtain ⟨hL, hR, hY⟩ := h
  obtain ⟨a1, a2, a3, a4, a5, a6, a7, a8, a9, a10, a11, a12, a13, a14, a15, a16, a17, a18, a19, a20⟩ := hY
  refine ⟨⟨hL, by rw [ho _ (by omega) (by omega)]; exact hR, a1, by rw [hm 6 (by omega) (by omega)]; exact a2, a3, by rw [ho _ (by omega) (by omega)]; exact a4, by rw [hm 12 (by omega) (by omega)]; exact a5, by rw [ho _ (by omega) (by omega)]; exact a6, by rw [hm 8 (by omega) (by omega)]; exact a7, by rw [hm 9 (by omega) (by omega)]; exact a8, fun z => by rw [hm 10 (by omega) (by omega)]; exact a9 z, a10, a11, a12, w1, hl, w2, hc, by rw [hm 17 (by omega) (by omega)]; exact a17, a18, by rw [ho _ (by omega) (by omega)]; exact a19, a20⟩, ?_, fun a ha => ho a (by omega) (by omega)⟩
  rw [w4 7 (by omega), up_at]
theorem n_renderStatue (h : R_N I τ m B C) (x : Int32) : NQ d 306 [.ref m, .int x] I τ m B (qv (q_rS C x)) (qc [0] (q_rS C x)) (t_rS C x) := by
  have hL := h.1
  have hR := h.2.1
  have hw := h.2.2.1
  have hR7 : ∀ v, R_F (up_2 I m 7 v (m + 1)) (g_S C) := fun v => R_F_7 hR
  have q1 := c_isStatue (d := d + 38) h.1 hR hw x
  obtain ⟨m70, k0, r0, r1, r2, r3, r4, r5, r6, r7, r8, g1, g2, g3, g4, g5, g6, g7, g8, -⟩ := hL
  have w1 := hw.2.1.1
  have w2 := hw.2.1.2.1
  unfold q_rS t_rS
  cases hx : inN (p_ns (s_P (g_S C))) x with
  | false =>
    rw [hx, b01_f] at q1
    refine ⟨up_2 I m 7 (iN 1), ?_, PN_7 h⟩
    rw [c_306, b_306_0]
    simp (disch := omega) only [rd_I_mk, rd_R_mk, rd_L_mk, rd_D_mk, kd_mk, wr_I_mk, cp_mk, gd_true, bd_ret, bd_thr, vl_none, vl_some, iN_add, iN_mul, iN_sub, iN_lt, iN_eq, iN_n, iN_m1, iN_pred, vp_iN, K0_le, nr_b0, nr_b1, m1_lt, lt_m1, iN_ne_m1, m1_ne_iN, not_lt_z, true_and, and_true, and_self, or_true, true_or, or_false, false_or, if_true, if_false, ↓reduceIte, eq_self, up_at, up_a, up_k, cp_c, cp_b, Nat.zero_add, Nat.add_zero, Nat.sub_zero, Nat.le_refl, Nat.add_sub_cancel, fu_at, fu_ne, iN_nz, n10_f, n01_f, ofN, qq_at_100, k110b, Nat.lt_irrefl, Nat.not_lt_zero, ne_eq, not_false_eq_true, not_true_eq_false, k0, q1, b_306_4, b_306_8, b_306_10, thT k0 m70]
    rfl
  | true =>
    rw [hx, b01_t] at q1
    obtain ⟨j, hj, rfl⟩ := (inN_iff (by omega)).mp hx
    rw [if_pos rfl, if_pos rfl, tn_iN (by omega)]
    obtain ⟨y1, y2, y3, y4⟩ := hw.2.1.2.2.2.1 j hj
    obtain ⟨z1, z2, z3⟩ := (hR7 (iN 0)).2.2.2.2.2.2.2.2.2.2.2.2.1 j hj
    have l1 := dg_len2 (n := j) (by omega)
    have l2 := dg_len2 (n := p_pl (s_P (g_S C)) j) (by omega)
    have l3 := dg_len2 (n := p_ho (s_P (g_S C)) j) (by omega)
    have l4 := dg_len2 (n := p_we (s_P (g_S C)) j) (by omega)
    obtain ⟨J1, s1, v1⟩ := c_digits (d := d + 33) h.1 5 j [] (up_2 (up_2 I m 7 (iN 0)) m 14 (iN 0)) (by omega) (Nat.le_refl _) WL_0 (by show 0 + _ ≤ 60; omega)
    obtain ⟨J2, s2, v2⟩ := c_writes (d := d + 39) h.1 v1 (x := 64) (by simp only [List.length_append, List.length_singleton, List.length_nil]; omega)
    have qa := c_ofStatue (d := d + 39) (I := J2) k0 r0 g1 (k := j) (w := 0) (by omega) (by omega)
    rw [WL_S v2] at qa
    have z1 : up_2 I m 7 (iN 0) (m + 1) (19 + 3 * j + 0) = iN (p_pl (s_P (g_S C)) j) := z1
    rw [z1] at qa
    obtain ⟨J3, s3, v3⟩ := c_digits (d := d + 33) h.1 5 (p_pl (s_P (g_S C)) j) _ J2 (by omega) (Nat.le_refl _) v2 (by simp only [List.length_append, List.length_singleton, List.length_nil]; omega)
    obtain ⟨J4, s4, v4⟩ := c_writes (d := d + 39) h.1 v3 (x := 62) (by simp only [List.length_append, List.length_singleton, List.length_nil]; omega)
    have qb := c_ofStatue (d := d + 39) (I := J4) k0 r0 g1 (k := j) (w := 1) (by omega) (by omega)
    rw [WL_S v4, z2] at qb
    obtain ⟨J5, s5, v5⟩ := c_digits (d := d + 33) h.1 5 (p_ho (s_P (g_S C)) j) _ J4 (by omega) (Nat.le_refl _) v4 (by simp only [List.length_append, List.length_singleton, List.length_nil]; omega)
    obtain ⟨J6, s6, v6⟩ := c_writes (d := d + 39) h.1 v5 (x := 32) (by simp only [List.length_append, List.length_singleton, List.length_nil]; omega)
    have qd := c_ofStatue (d := d + 39) (I := J6) k0 r0 g1 (k := j) (w := 2) (by omega) (by omega)
    rw [WL_S v6, z3] at qd
    obtain ⟨J7, s7, v7⟩ := c_digits (d := d + 33) h.1 5 (p_we (s_P (g_S C)) j) _ J6 (by omega) (Nat.le_refl _) v6 (by simp only [List.length_append, List.length_singleton, List.length_nil]; omega)
    obtain ⟨J8, s8, v8⟩ := c_writes (d := d + 39) h.1 v7 (x := 107) (by simp only [List.length_append, List.length_singleton, List.length_nil]; omega)
    obtain ⟨J9, s9, v9⟩ := c_writes (d := d + 39) h.1 v8 (x := 103) (by simp only [List.length_append, List.length_singleton, List.length_nil]; omega)
    have qe := c_isHeld (d := d + 38) (I := J9) h.1 (by rw [WL_S v9]; exact hR7 _) hw (x := j) (by omega)
    have e9 : ∀ l : List Nat, l ++ [107] ++ [103] = l ++ [107, 103] := fun l => by rw [List.append_assoc]; rfl
    rw [e9] at v9
    have hall : ∀ x ∈ [] ++ dg j ++ [64] ++ dg (p_pl (s_P (g_S C)) j) ++ [62] ++ dg (p_ho (s_P (g_S C)) j) ++ [32] ++ dg (p_we (s_P (g_S C)) j) ++ [107, 103], x < 128 := app_c (app_c (app_c (app_c (app_c (app_c (app_c (app_c (fun x hx => absurd hx List.not_mem_nil) (dg_128 _)) (one_128 (by omega))) (dg_128 _)) (one_128 (by omega))) (dg_128 _)) (one_128 (by omega))) (dg_128 _)) (by decide)
    unfold txS
    cases hb : bU (s_U (g_S C)) j with
    | true =>
      rw [hb, b01_t] at qe
      obtain ⟨JA, sA, vA⟩ := c_writes (d := d + 39) h.1 v9 (x := 33) (by simp only [List.length_append, List.length_singleton, List.length_nil, List.length_cons]; omega)
      rw [if_pos rfl]
      refine ⟨JA, ?_, PN_out h vA (by simp only [List.length_append, List.length_singleton, List.length_nil, List.length_cons]; omega) (app_c hall (one_128 (by omega)))⟩
      have e14 := vA.1
      rw [c_306, b_306_0]
      simp (disch := omega) only [rd_I_mk, rd_R_mk, rd_L_mk, rd_D_mk, kd_mk, wr_I_mk, cp_mk, gd_true, bd_ret, bd_thr, vl_none, vl_some, iN_add, iN_mul, iN_sub, iN_lt, iN_eq, iN_n, iN_m1, iN_pred, vp_iN, K0_le, nr_b0, nr_b1, m1_lt, lt_m1, iN_ne_m1, m1_ne_iN, not_lt_z, true_and, and_true, and_self, or_true, true_or, or_false, false_or, if_true, if_false, ↓reduceIte, eq_self, up_at, up_a, up_k, cp_c, cp_b, Nat.zero_add, Nat.add_zero, Nat.sub_zero, Nat.le_refl, Nat.add_sub_cancel, fu_at, fu_ne, iN_nz, n10_f, n01_f, ofN, qq_at_100, k110b, Nat.lt_irrefl, Nat.not_lt_zero, ne_eq, not_false_eq_true, not_true_eq_false, k0, q1, b_306_4, b_306_8, b_306_10, thF k0 m70, b_306_16, s1, b_306_19, s2, b_306_22, qa, b_306_27, s3, b_306_28, s4, b_306_31, qb, b_306_36, s5, b_306_37, s6, b_306_40, qd, b_306_45, s7, b_306_46, s8, b_306_49, s9, b_306_52, qe, b_306_55, sA, b_306_59, e14]
      rfl
    | false =>
      rw [hb, b01_f] at qe
      rw [if_neg (show ¬ (false = true) by decide), List.append_nil]
      refine ⟨J9, ?_, PN_out h v9 (by simp only [List.length_append, List.length_singleton, List.length_nil, List.length_cons]; omega) hall⟩
      have e14 := v9.1
      rw [c_306, b_306_0]
      simp (disch := omega) only [rd_I_mk, rd_R_mk, rd_L_mk, rd_D_mk, kd_mk, wr_I_mk, cp_mk, gd_true, bd_ret, bd_thr, vl_none, vl_some, iN_add, iN_mul, iN_sub, iN_lt, iN_eq, iN_n, iN_m1, iN_pred, vp_iN, K0_le, nr_b0, nr_b1, m1_lt, lt_m1, iN_ne_m1, m1_ne_iN, not_lt_z, true_and, and_true, and_self, or_true, true_or, or_false, false_or, if_true, if_false, ↓reduceIte, eq_self, up_at, up_a, up_k, cp_c, cp_b, Nat.zero_add, Nat.add_zero, Nat.sub_zero, Nat.le_refl, Nat.add_sub_cancel, fu_at, fu_ne, iN_nz, n10_f, n01_f, ofN, qq_at_100, k110b, Nat.lt_irrefl, Nat.not_lt_zero, ne_eq, not_false_eq_true, not_true_eq_false, k0, q1, b_306_4, b_306_8, b_306_10, thF k0 m70, b_306_16, s1, b_306_19, s2, b_306_22, qa, b_306_27, s3, b_306_28, s4, b_306_31, qb, b_306_36, s5, b_306_37, s6, b_306_40, qd, b_306_45, s7, b_306_46, s8, b_306_49, s9, b_306_52, qe, b_306_55, b_306_59, e14]
      rfl
/-- from the sign before the last night on -/
theorem w_tailM (h : R_N I τ m B C) {k : Nat} (hk : k < un (s_U (g_S C))) (hW : WL m (up_2 I m 7 (iN 0)) J l) (hl : l.length ≤ 30) (hc : ∀ x ∈ l, x < 128) (x : Int32) : ∃ I', RR (d + 40) 307 46 [some (.ref m), some (.int x), some (.int (iN k))] [] (J, τ) = some (.inl (some (.int (iN (l ++ [35] ++ dg (w_la (ug (s_U (g_S C)) k)) ++ [36] ++ dg (w_ba (ug (s_U (g_S C)) k)) ++ (if w_pd (ug (s_U (g_S C)) k) = 1 then [43] else [])).length))), (I', τ)) ∧ PN m I I' τ B 0 (cO C (l ++ [35] ++ dg (w_la (ug (s_U (g_S C)) k)) ++ [36] ++ dg (w_ba (ug (s_U (g_S C)) k)) ++ (if w_pd (ug (s_U (g_S C)) k) = 1 then [43] else []))) := by
  have hL := h.1
  have hR := h.2.1
  have hw := h.2.2.1
  have hR7 : ∀ v, R_F (up_2 I m 7 v (m + 1)) (g_S C) := fun v => R_F_7 hR
  obtain ⟨m70, k0, r0, r1, r2, r3, r4, r5, r6, r7, r8, g1, g2, g3, g4, g5, g6, g7, g8, -⟩ := hL
  have w3 := hw.2.2.1.1
  obtain ⟨y1, y2, y3, y4, y5, y6, -⟩ := hw.2.2.1.2.2.2 k hk
  obtain ⟨z1, z2, z3, z4, z5, z6⟩ := (hR7 (iN 0)).2.2.2.2.2.2.2.2.2.2.2.2.2.1 k hk
  have l1 := dg_len6 y6
  have l2 := dg_len2 (n := w_ba (ug (s_U (g_S C)) k)) (by omega)
  obtain ⟨J1, s1, v1⟩ := c_writes (d := d + 39) h.1 hW (x := 35) (by omega)
  have qa := c_of (d := d + 39) (I := J1) k0 r0 g1 (k := k) (w := 2) (by omega) (by omega)
  rw [WL_S v1, z3] at qa
  obtain ⟨J2, s2, v2⟩ := c_digits (d := d + 33) h.1 5 (w_la (ug (s_U (g_S C)) k)) _ J1 (by omega) (Nat.le_refl _) v1 (by simp only [List.length_append, List.length_singleton]; omega)
  obtain ⟨J3, s3, v3⟩ := c_writes (d := d + 39) h.1 v2 (x := 36) (by simp only [List.length_append, List.length_singleton]; omega)
  have qb := c_of (d := d + 39) (I := J3) k0 r0 g1 (k := k) (w := 3) (by omega) (by omega)
  rw [WL_S v3, z4] at qb
  obtain ⟨J4, s4, v4⟩ := c_digits (d := d + 33) h.1 5 (w_ba (ug (s_U (g_S C)) k)) _ J3 (by omega) (Nat.le_refl _) v3 (by simp only [List.length_append, List.length_singleton]; omega)
  have qd := c_of (d := d + 39) (I := J4) k0 r0 g1 (k := k) (w := 4) (by omega) (by omega)
  rw [WL_S v4, z5] at qd
  have hall : ∀ x ∈ l ++ [35] ++ dg (w_la (ug (s_U (g_S C)) k)) ++ [36] ++ dg (w_ba (ug (s_U (g_S C)) k)), x < 128 := app_c (app_c (app_c (app_c hc (one_128 (by omega))) (dg_128 _)) (one_128 (by omega))) (dg_128 _)
  by_cases hb : w_pd (ug (s_U (g_S C)) k) = 1
  · rw [if_pos hb]
    rw [hb] at qd
    obtain ⟨J5, s5, v5⟩ := c_writes (d := d + 39) h.1 v4 (x := 43) (by simp only [List.length_append, List.length_singleton]; omega)
    have e14 := v5.1
    refine ⟨J5, ?_, PN_out h v5 (by simp only [List.length_append, List.length_singleton]; omega) (app_c hall (one_128 (by omega)))⟩
    rw [b_307_46]
    simp (disch := omega) only [rd_I_mk, rd_R_mk, rd_L_mk, rd_D_mk, kd_mk, wr_I_mk, cp_mk, gd_true, bd_ret, bd_thr, vl_none, vl_some, iN_add, iN_mul, iN_sub, iN_lt, iN_eq, iN_n, iN_m1, iN_pred, vp_iN, K0_le, nr_b0, nr_b1, m1_lt, lt_m1, iN_ne_m1, m1_ne_iN, not_lt_z, true_and, and_true, and_self, or_true, true_or, or_false, false_or, if_true, if_false, ↓reduceIte, eq_self, up_at, up_a, up_k, cp_c, cp_b, Nat.zero_add, Nat.add_zero, Nat.sub_zero, Nat.le_refl, Nat.add_sub_cancel, fu_at, fu_ne, iN_nz, n10_f, n01_f, ofN, qq_at_100, k110b, Nat.lt_irrefl, Nat.not_lt_zero, ne_eq, not_false_eq_true, not_true_eq_false, k0, s1, b_307_49, qa, b_307_54, s2, b_307_55, s3, b_307_58, qb, b_307_63, s4, b_307_64, qd, b_307_68, s5, b_307_73, e14]
  · rw [if_neg hb, List.append_nil]
    have hb' : w_pd (ug (s_U (g_S C)) k) = 0 := by omega
    rw [hb'] at qd
    have e14 := v4.1
    refine ⟨J4, ?_, PN_out h v4 (by simp only [List.length_append, List.length_singleton]; omega) hall⟩
    rw [b_307_46]
    simp (disch := omega) only [rd_I_mk, rd_R_mk, rd_L_mk, rd_D_mk, kd_mk, wr_I_mk, cp_mk, gd_true, bd_ret, bd_thr, vl_none, vl_some, iN_add, iN_mul, iN_sub, iN_lt, iN_eq, iN_n, iN_m1, iN_pred, vp_iN, K0_le, nr_b0, nr_b1, m1_lt, lt_m1, iN_ne_m1, m1_ne_iN, not_lt_z, true_and, and_true, and_self, or_true, true_or, or_false, false_or, if_true, if_false, ↓reduceIte, eq_self, up_at, up_a, up_k, cp_c, cp_b, Nat.zero_add, Nat.add_zero, Nat.sub_zero, Nat.le_refl, Nat.add_sub_cancel, fu_at, fu_ne, iN_nz, n10_f, n01_f, ofN, qq_at_100, k110b, Nat.lt_irrefl, Nat.not_lt_zero, ne_eq, not_false_eq_true, not_true_eq_false, k0, s1, b_307_49, qa, b_307_54, s2, b_307_55, s3, b_307_58, qb, b_307_63, s4, b_307_64, qd, b_307_68, b_307_73, e14]
theorem n_renderWrit (h : R_N I τ m B C) (x : Int32) : NQ d 307 [.ref m, .int x] I τ m B (qv (q_rW C x)) (qc [3] (q_rW C x)) (t_rW C x) := by
  have hL := h.1
  have hR := h.2.1
  have hw := h.2.2.1
  have hR7 : ∀ v, R_F (up_2 I m 7 v (m + 1)) (g_S C) := fun v => R_F_7 hR
  have q0 := c_at (d := d + 38) h.1 hR hw x
  obtain ⟨m70, k0, r0, r1, r2, r3, r4, r5, r6, r7, r8, g1, g2, g3, g4, g5, g6, g7, g8, -⟩ := hL
  have w3 := hw.2.2.1.1
  unfold q_rW t_rW
  cases hx : fiX (s_U (g_S C)) x with
  | none =>
    rw [hx] at q0
    refine ⟨up_2 I m 7 (iN 1), ?_, PN_7 h⟩
    rw [c_307, b_307_0]
    simp (disch := omega) only [rd_I_mk, rd_R_mk, rd_L_mk, rd_D_mk, kd_mk, wr_I_mk, cp_mk, gd_true, bd_ret, bd_thr, vl_none, vl_some, iN_add, iN_mul, iN_sub, iN_lt, iN_eq, iN_n, iN_m1, iN_pred, vp_iN, K0_le, nr_b0, nr_b1, m1_lt, lt_m1, iN_ne_m1, m1_ne_iN, not_lt_z, true_and, and_true, and_self, or_true, true_or, or_false, false_or, if_true, if_false, ↓reduceIte, eq_self, up_at, up_a, up_k, cp_c, cp_b, Nat.zero_add, Nat.add_zero, Nat.sub_zero, Nat.le_refl, Nat.add_sub_cancel, fu_at, fu_ne, iN_nz, n10_f, n01_f, ofN, qq_at_100, k110b, Nat.lt_irrefl, Nat.not_lt_zero, ne_eq, not_false_eq_true, not_true_eq_false, k0, q0, oN, b_307_3, b_307_10, b_307_12, thT k0 m70]
    rfl
  | some k =>
    rw [hx] at q0
    have hk := fiX_lt hx
    have hxe : x = iN (w_id (ug (s_U (g_S C)) k)) := (beq_iff_eq.mp (ff_some _ _ _ hx).2.2.1).symm
    have hix := hw.2.2.1.2.1
    have hca := ca_b hw hk
    obtain ⟨y1, y2, y3, y4, y5, y6, -⟩ := hw.2.2.1.2.2.2 k hk
    obtain ⟨z1, z2, z3, z4, z5, z6⟩ := (hR7 (iN 0)).2.2.2.2.2.2.2.2.2.2.2.2.2.1 k hk
    have l1 := dg_len6 (n := w_id (ug (s_U (g_S C)) k)) (by omega)
    have l2 := dg_len2 (n := w_of (ug (s_U (g_S C)) k)) (by omega)
    obtain ⟨J1, s1, v1⟩ := c_digits (d := d + 33) h.1 5 (w_id (ug (s_U (g_S C)) k)) [] (up_2 (up_2 I m 7 (iN 0)) m 14 (iN 0)) (by omega) (Nat.le_refl _) WL_0 (by show 0 + _ ≤ 60; omega)
    obtain ⟨J2, s2, v2⟩ := c_writes (d := d + 39) h.1 v1 (x := 58) (by simp only [List.length_append, List.length_singleton, List.length_nil]; omega)
    have qa := c_of (d := d + 39) (I := J2) k0 r0 g1 (k := k) (w := 1) (by omega) (by omega)
    rw [WL_S v2, z2] at qa
    obtain ⟨J3, s3, v3⟩ := c_digits (d := d + 33) h.1 5 (w_of (ug (s_U (g_S C)) k)) _ J2 (by omega) (Nat.le_refl _) v2 (by simp only [List.length_append, List.length_singleton, List.length_nil]; omega)
    have qb := c_of (d := d + 39) (I := J3) k0 r0 g1 (k := k) (w := 5) (by omega) (by omega)
    rw [WL_S v3, z6] at qb
    have hall : ∀ x ∈ [] ++ dg (w_id (ug (s_U (g_S C)) k)) ++ [58] ++ dg (w_of (ug (s_U (g_S C)) k)), x < 128 := app_c (app_c (app_c (fun x hx => absurd hx List.not_mem_nil) (dg_128 _)) (one_128 (by omega))) (dg_128 _)
    rw [← hxe] at s1
    by_cases z : w_ca (ug (s_U (g_S C)) k) = 0
    · rw [z] at qb
      obtain ⟨I', t1, t2⟩ := w_tailM (d := d) h hk v3 (by simp only [List.length_append, List.length_singleton, List.length_nil]; omega) hall x
      have e : txW (g_S C) k = [] ++ dg (w_id (ug (s_U (g_S C)) k)) ++ [58] ++ dg (w_of (ug (s_U (g_S C)) k)) ++ [35] ++ dg (w_la (ug (s_U (g_S C)) k)) ++ [36] ++ dg (w_ba (ug (s_U (g_S C)) k)) ++ (if w_pd (ug (s_U (g_S C)) k) = 1 then [43] else []) := by
        unfold txW txC
        rw [if_pos z, List.append_nil]
      rw [← e] at t1 t2
      refine ⟨I', ?_, t2⟩
      rw [c_307, b_307_0]
      simp (disch := omega) only [rd_I_mk, rd_R_mk, rd_L_mk, rd_D_mk, kd_mk, wr_I_mk, cp_mk, gd_true, bd_ret, bd_thr, vl_none, vl_some, iN_add, iN_mul, iN_sub, iN_lt, iN_eq, iN_n, iN_m1, iN_pred, vp_iN, K0_le, nr_b0, nr_b1, m1_lt, lt_m1, iN_ne_m1, m1_ne_iN, not_lt_z, true_and, and_true, and_self, or_true, true_or, or_false, false_or, if_true, if_false, ↓reduceIte, eq_self, up_at, up_a, up_k, cp_c, cp_b, Nat.zero_add, Nat.add_zero, Nat.sub_zero, Nat.le_refl, Nat.add_sub_cancel, fu_at, fu_ne, iN_nz, n10_f, n01_f, ofN, qq_at_100, k110b, Nat.lt_irrefl, Nat.not_lt_zero, ne_eq, not_false_eq_true, not_true_eq_false, k0, q0, oN, b_307_3, b_307_10, b_307_12, thF k0 m70, b_307_18, s1, b_307_21, s2, b_307_24, qa, b_307_29, s3, b_307_30, qb, b_307_34, Nat.lt_irrefl]
      exact t1
    · have l3 := dg_len6 (n := w_ca (ug (s_U (g_S C)) k) - 1) (by omega)
      obtain ⟨J4, s4, v4⟩ := c_writes (d := d + 39) h.1 v3 (x := 60) (by simp only [List.length_append, List.length_singleton, List.length_nil]; omega)
      have qd := c_of (d := d + 39) (I := J4) k0 r0 g1 (k := k) (w := 5) (by omega) (by omega)
      rw [WL_S v4, z6] at qd
      obtain ⟨J5, s5, v5⟩ := c_digits (d := d + 33) h.1 5 (w_ca (ug (s_U (g_S C)) k) - 1) _ J4 (by omega) (Nat.le_refl _) v4 (by simp only [List.length_append, List.length_singleton, List.length_nil]; omega)
      obtain ⟨I', t1, t2⟩ := w_tailM (d := d) h hk v5 (by simp only [List.length_append, List.length_singleton, List.length_nil]; omega) (app_c (app_c hall (one_128 (by omega))) (dg_128 _)) x
      have e : txW (g_S C) k = [] ++ dg (w_id (ug (s_U (g_S C)) k)) ++ [58] ++ dg (w_of (ug (s_U (g_S C)) k)) ++ [60] ++ dg (w_ca (ug (s_U (g_S C)) k) - 1) ++ [35] ++ dg (w_la (ug (s_U (g_S C)) k)) ++ [36] ++ dg (w_ba (ug (s_U (g_S C)) k)) ++ (if w_pd (ug (s_U (g_S C)) k) = 1 then [43] else []) := by
        unfold txW txC
        rw [if_neg z, ← List.append_assoc]
      rw [← e] at t1 t2
      refine ⟨I', ?_, t2⟩
      have e0 : (iN 0 < iN (w_ca (ug (s_U (g_S C)) k))) = True := (iN_lt (by omega) (by omega)).trans (eq_true (by omega))
      have e1 : iN (w_ca (ug (s_U (g_S C)) k)) - iN 1 = iN (w_ca (ug (s_U (g_S C)) k) - 1) := iN_sub (by omega)
      rw [c_307, b_307_0]
      simp (disch := omega) only [rd_I_mk, rd_R_mk, rd_L_mk, rd_D_mk, kd_mk, wr_I_mk, cp_mk, gd_true, bd_ret, bd_thr, vl_none, vl_some, iN_add, iN_mul, iN_sub, iN_lt, iN_eq, iN_n, iN_m1, iN_pred, vp_iN, K0_le, nr_b0, nr_b1, m1_lt, lt_m1, iN_ne_m1, m1_ne_iN, not_lt_z, true_and, and_true, and_self, or_true, true_or, or_false, false_or, if_true, if_false, ↓reduceIte, eq_self, up_at, up_a, up_k, cp_c, cp_b, Nat.zero_add, Nat.add_zero, Nat.sub_zero, Nat.le_refl, Nat.add_sub_cancel, fu_at, fu_ne, iN_nz, n10_f, n01_f, ofN, qq_at_100, k110b, Nat.lt_irrefl, Nat.not_lt_zero, ne_eq, not_false_eq_true, not_true_eq_false, k0, q0, oN, b_307_3, b_307_10, b_307_12, thF k0 m70, b_307_18, s1, b_307_21, s2, b_307_24, qa, b_307_29, s3, b_307_30, qb, b_307_34, e0, s4, b_307_38, qd, b_307_43, e1, s5]
      exact t1
theorem n_outputAt (h : R_N I τ m B C) (x : Int32) : NQ d 308 [.ref m, .int x] I τ m B (qv (q_outAt C x)) (qc [0] (q_outAt C x)) C := by
  have hL := h.1
  obtain ⟨a1, a2, a3, a4, a5, a6, a7, a8, a9, a10, a11, a12, a13, a14, a15, a16, a17, a18, a19, a20⟩ := h.2.2
  have q1 := c_isIn (d := d + 39) (I := I) (τ := τ) (x := x) (lo := iN 0) (hi := iN (g_O C).length - iN 1)
  rw [inN_eq (by omega)] at q1
  obtain ⟨m70, k0, r0, r1, r2, r3, r4, r5, r6, r7, r8, g1, g2, g3, g4, g5, g6, g7, g8, -⟩ := hL
  unfold q_outAt
  cases hx : inN (g_O C).length x with
  | false =>
    rw [hx, b01_f] at q1
    refine ⟨up_2 I m 7 (iN 1), ?_, PN_7 h⟩
    rw [c_308, b_308_0]
    simp (disch := omega) only [rd_I_mk, rd_R_mk, rd_L_mk, rd_D_mk, kd_mk, wr_I_mk, cp_mk, gd_true, bd_ret, bd_thr, vl_none, vl_some, iN_add, iN_mul, iN_lt, iN_eq, iN_n, iN_m1, iN_pred, vp_iN, K0_le, nr_b0, nr_b1, m1_lt, lt_m1, iN_ne_m1, m1_ne_iN, not_lt_z, true_and, and_true, and_self, or_true, true_or, or_false, false_or, if_true, if_false, ↓reduceIte, eq_self, up_at, up_a, up_k, cp_c, cp_b, Nat.zero_add, Nat.add_zero, Nat.sub_zero, Nat.le_refl, Nat.add_sub_cancel, fu_at, fu_ne, iN_nz, n10_f, n01_f, ofN, qq_at_100, k110b, Nat.lt_irrefl, Nat.not_lt_zero, ne_eq, not_false_eq_true, not_true_eq_false, k0, a13, q1, b_308_8, b_308_12, b_308_14, thT k0 m70, b_308_22, nr_ch]
    rfl
  | true =>
    rw [hx, b01_t] at q1
    obtain ⟨j, hj, rfl⟩ := (inN_iff (by omega)).mp hx
    have hck := a16 _ (List.getElem_mem hj)
    have ej : up_2 I m 7 (iN 0) (m + 7) j = iN (g_O C)[j] := by rw [up_c (by omega)]; exact a15 j hj
    rw [if_pos rfl, tn_iN (by omega), List.getD_eq_getElem?_getD, List.getElem?_eq_getElem hj]
    refine ⟨up_2 I m 7 (iN 0), ?_, PN_7 h⟩
    rw [c_308, b_308_0]
    simp (disch := omega) only [rd_I_mk, rd_R_mk, rd_L_mk, rd_D_mk, kd_mk, wr_I_mk, cp_mk, gd_true, bd_ret, bd_thr, vl_none, vl_some, iN_add, iN_mul, iN_lt, iN_eq, iN_n, iN_m1, iN_pred, vp_iN, K0_le, nr_b0, nr_b1, m1_lt, lt_m1, iN_ne_m1, m1_ne_iN, not_lt_z, true_and, and_true, and_self, or_true, true_or, or_false, false_or, if_true, if_false, ↓reduceIte, eq_self, up_at, up_a, up_k, cp_c, cp_b, Nat.zero_add, Nat.add_zero, Nat.sub_zero, Nat.le_refl, Nat.add_sub_cancel, fu_at, fu_ne, iN_nz, n10_f, n01_f, ofN, qq_at_100, k110b, Nat.lt_irrefl, Nat.not_lt_zero, ne_eq, not_false_eq_true, not_true_eq_false, k0, a13, q1, b_308_8, b_308_12, b_308_14, thF k0 m70, r6, g7, ej, mo_b hck, b_308_22, nr_ch]
    rfl
theorem n_type (h : R_N I τ m B C) (x : Int32) : NQ d 309 [.ref m, .int x] I τ m B (qv (q_type C x)) (qc [1, 2] (q_type C x)) (t_type C x) := by
  have hL := h.1
  have h0 := h
  obtain ⟨hL', hR, hY⟩ := h
  obtain ⟨a1, a2, a3, a4, a5, a6, a7, a8, a9, a10, a11, a12, a13, a14, a15, a16, a17, a18, a19, a20⟩ := hY
  have q1 := c_isIn (d := d + 39) (I := I) (τ := τ) (x := x) (lo := iN 32) (hi := iN 126)
  rw [inB_eq] at q1
  obtain ⟨m70, k0, r0, r1, r2, r3, r4, r5, r6, r7, r8, g1, g2, g3, g4, g5, g6, g7, g8, -⟩ := hL
  unfold q_type t_type
  cases hx : inB 32 126 x with
  | false =>
    rw [hx, b01_f] at q1
    refine ⟨up_2 I m 7 (iN 1), ?_, PN_7 h0⟩
    rw [c_309, b_309_0]
    simp (disch := omega) only [rd_I_mk, rd_R_mk, rd_L_mk, rd_D_mk, kd_mk, wr_I_mk, cp_mk, gd_true, bd_ret, bd_thr, vl_none, vl_some, iN_add, iN_mul, iN_sub, iN_lt, iN_eq, iN_n, iN_m1, iN_pred, vp_iN, K0_le, nr_b0, nr_b1, m1_lt, lt_m1, iN_ne_m1, m1_ne_iN, not_lt_z, true_and, and_true, and_self, or_true, true_or, or_false, false_or, if_true, if_false, ↓reduceIte, eq_self, up_at, up_a, up_k, cp_c, cp_b, Nat.zero_add, Nat.add_zero, Nat.sub_zero, Nat.le_refl, Nat.add_sub_cancel, fu_at, fu_ne, iN_nz, n10_f, n01_f, ofN, qq_at_100, k110b, Nat.lt_irrefl, Nat.not_lt_zero, ne_eq, not_false_eq_true, not_true_eq_false, k0, q1, b_309_5, b_309_9, b_309_11, thT k0 m70, b_309_23]
    rfl
  | true =>
    rw [hx, b01_t] at q1
    obtain ⟨j, hj1, hj, rfl⟩ := (inB_iff (by omega) (by omega)).mp hx
    rw [if_pos rfl, if_pos rfl, tn_iN (by omega)]
    have e17 : up_2 I m 7 (iN 0) m 17 = iN (g_T C).length := by rw [up_k (by omega)]; exact a17
    by_cases y : (g_T C).length < 60
    · rw [if_pos y, if_pos y]
      have y2 : ¬ (g_T C).length = 60 := by omega
      have e18 : up_2 (up_2 I m 7 (iN 0)) (m + 8) (g_T C).length (iN j) m 17 = iN (g_T C).length := by rw [up_c (by omega)]; exact e17
      refine ⟨up_2 (up_2 (up_2 I m 7 (iN 0)) (m + 8) (g_T C).length (iN j)) m 17 (iN ((g_T C).length + 1)), ?_, ⟨hL', ?_, a1, ?_, a3, ?_, ?_, ?_, ?_, ?_, fun z => ?_, a10, a11, a12, ?_, a14, ?_, a16, ?_, ?_, fun i hi => ?_, fun z hz => ?_⟩, ?_, fun a ha => ?_⟩
      · rw [c_309, b_309_0]
        simp (disch := omega) only [rd_I_mk, rd_R_mk, rd_L_mk, rd_D_mk, kd_mk, wr_I_mk, cp_mk, gd_true, bd_ret, bd_thr, vl_none, vl_some, iN_add, iN_mul, iN_sub, iN_lt, iN_eq, iN_n, iN_m1, iN_pred, vp_iN, K0_le, nr_b0, nr_b1, m1_lt, lt_m1, iN_ne_m1, m1_ne_iN, not_lt_z, true_and, and_true, and_self, or_true, true_or, or_false, false_or, if_true, if_false, ↓reduceIte, eq_self, up_at, up_a, up_k, cp_c, cp_b, Nat.zero_add, Nat.add_zero, Nat.sub_zero, Nat.le_refl, Nat.add_sub_cancel, fu_at, fu_ne, iN_nz, n10_f, n01_f, ofN, qq_at_100, k110b, Nat.lt_irrefl, Nat.not_lt_zero, ne_eq, not_false_eq_true, not_true_eq_false, k0, q1, b_309_5, b_309_9, b_309_11, thF k0 m70, e17, y2, b_309_20, b_309_22, up_up, r7, g8, b_309_31, e18, b_309_37]
        rfl
      · rw [up_c (by omega), up_c (by omega), up_c (by omega)]; exact hR
      · rw [up_k (by omega), up_c (by omega), up_k (by omega)]; exact a2
      · rw [up_c (by omega), up_c (by omega), up_c (by omega)]; exact a4
      · rw [up_k (by omega), up_c (by omega), up_k (by omega)]; exact a5
      · rw [up_c (by omega), up_c (by omega), up_c (by omega)]; exact a6
      · rw [up_k (by omega), up_c (by omega), up_k (by omega)]; exact a7
      · rw [up_k (by omega), up_c (by omega), up_k (by omega)]; exact a8
      · rw [up_k (by omega), up_c (by omega), up_k (by omega)]; exact a9 z
      · rw [up_k (by omega), up_c (by omega), up_k (by omega)]; exact a13
      · rw [up_c (by omega), up_c (by omega), up_c (by omega)]; exact a15
      · rw [up_at]
        show _ = iN (g_T C ++ [j]).length
        rw [List.length_append]; rfl
      · show (g_T C ++ [j]).length ≤ 60
        rw [List.length_append]; exact y
      · have hi : i < (g_T C ++ [j]).length := hi
        show _ = iN (g_T C ++ [j])[i]
        rw [up_c (by omega)]
        rw [List.length_append] at hi
        have hi : i < (g_T C).length + 1 := hi
        by_cases z : i < (g_T C).length
        · rw [up_k (by omega), up_c (by omega), List.getElem_append_left z]; exact a19 i z
        · have z : i = (g_T C).length := by omega
          subst z
          rw [up_at, List.getElem_append_right (Nat.le_refl _)]
          simp
      · have hz : z ∈ g_T C ++ [j] := hz
        rcases List.mem_append.mp hz with hz | hz
        · exact a20 z hz
        · rw [List.mem_singleton] at hz; omega
      · rw [up_k (by omega), up_c (by omega), up_at]; rfl
      · rw [up_c (by omega), up_c (by omega), up_c (by omega)]
    · have y2 : (g_T C).length = 60 := by omega
      rw [if_neg y, if_neg y]
      rw [y2] at e17
      refine ⟨up_2 I m 7 (iN 2), ?_, PN_7 h0⟩
      rw [c_309, b_309_0]
      simp (disch := omega) only [rd_I_mk, rd_R_mk, rd_L_mk, rd_D_mk, kd_mk, wr_I_mk, cp_mk, gd_true, bd_ret, bd_thr, vl_none, vl_some, iN_add, iN_mul, iN_sub, iN_lt, iN_eq, iN_n, iN_m1, iN_pred, vp_iN, K0_le, nr_b0, nr_b1, m1_lt, lt_m1, iN_ne_m1, m1_ne_iN, not_lt_z, true_and, and_true, and_self, or_true, true_or, or_false, false_or, if_true, if_false, ↓reduceIte, eq_self, up_at, up_a, up_k, cp_c, cp_b, Nat.zero_add, Nat.add_zero, Nat.sub_zero, Nat.le_refl, Nat.add_sub_cancel, fu_at, fu_ne, iN_nz, n10_f, n01_f, ofN, qq_at_100, k110b, Nat.lt_irrefl, Nat.not_lt_zero, ne_eq, not_false_eq_true, not_true_eq_false, k0, q1, b_309_5, b_309_9, b_309_11, thF k0 m70, e17, b_309_20, thT k0 m70, b_309_22, b_309_23, up_up]
      rfl
end MRE2
