/-! PUBLIC CALLS: rendering -/
/-- the strings among the constants -/
def ktab : List (Nat × List Nat) := [(3, [107, 103]), (5, [100, 101, 115, 116, 97, 108]), (7, [97, 121, 32]), (9, [109, 101, 32]), (11, [101, 97, 114, 32]), (13, [114, 105, 116, 32]), (15, [105, 103, 104, 116]), (17, [114, 114, 111, 119, 32]), (19, [116, 97, 116, 117, 101, 32]), (21, [108, 111, 99, 107, 32]), (23, [115]), (25, [101, 115, 117]), (27, [101, 115]), (29, [105, 97, 101, 115]), (31, [97]), (33, [105]), (35, [97, 115]), (37, [105, 97, 115]), (39, [112, 101, 100, 101, 115, 116, 97, 108]), (41, [97, 114, 114, 111, 119, 32, 35, 35]), (43, [115, 116, 97, 116, 117, 101, 32, 35, 32, 37]), (45, [104, 111, 109, 101, 32, 35, 35]), (47, [119, 114, 105, 116, 32, 35, 32, 37, 32, 37, 91, 60, 37, 93]), (49, [98, 108, 111, 99, 107, 32, 37, 32, 35]), (51, [112, 97, 121, 32, 37]), (53, [104, 101, 97, 114, 32, 37]), (55, [110, 105, 103, 104, 116, 91, 32, 37, 93])]
/-- the constants -/
def KC (I : qq_I) (τ : qq_R) : Prop := KD I τ ∧ (∀ p ∈ ktab, St I τ p.1 p.2) ∧ tK τ 66 = (112, 9) ∧ (∀ i, i < 9 → tR τ 66 i = 57 + i ∧ tK τ (57 + i) = (1, 0) ∧ I (57 + i) 0 = iN i ∧ tR τ (57 + i) 1 = 39 + 2 * i) ∧ tK τ 67 = (100, 9) ∧ (∀ i, i < 9 → I 67 i = iN (if i < 8 then i + 1 else 0))
theorem KC_same {I I' : qq_I} {τ τ' : qq_R} (h : KC I τ) (hs : ∀ a, a < 70 → I' a = I a ∧ tK τ' a = tK τ a ∧ ∀ k, tR τ' a k = tR τ a k) : KC I' τ' := by
  obtain ⟨⟨h1, h2, h3, h4⟩, h5, h6, h7, h8, h9⟩ := h
  refine ⟨⟨(hs 68 (by omega)).2.1.trans h1, (hs 69 (by omega)).2.1.trans h2, fun i hi => by rw [(hs 68 (by omega)).1]; exact h3 i hi, fun i hi => by rw [(hs 69 (by omega)).1]; exact h4 i hi⟩, fun p hp => St_same (h5 p hp) hs, (hs 66 (by omega)).2.1.trans h6, fun i hi => ?_, (hs 67 (by omega)).2.1.trans h8, fun i hi => by rw [(hs 67 (by omega)).1]; exact h9 i hi⟩
  obtain ⟨a1, a2, a3, a4⟩ := h7 i hi
  exact ⟨((hs 66 (by omega)).2.2 i).trans a1, (hs (57 + i) (by omega)).2.1.trans a2, by rw [(hs (57 + i) (by omega)).1]; exact a3, ((hs (57 + i) (by omega)).2.2 1).trans a4⟩
theorem KC_gf {A : Nat → Prop} {I I' : qq_I} {τ τ' : qq_R} (h : KC I τ) (hG : Gf A I τ I' τ') (hz : 70 ≤ tZ τ) (hA : ∀ a, a < 70 → ¬ A a) : KC I' τ' :=
  KC_same h (fun a ha => ⟨Gf_II hG (by omega) (hA a ha), Gf_K hG (by omega), fun _ => Gf_R hG (by omega) (hA a ha)⟩)
section RE
variable {d : Nat} {I I' J : qq_I} {τ τ' ρ : qq_R} {c Z B k : Nat} {C : sC} {l : List Nat}
/-- what is there while the output is being written -/
def WO (I : qq_I) (τ : qq_R) (c Z k : Nat) (J : qq_I) (ρ : qq_R) (l : List Nat) : Prop := PB I τ (c + 236) Z k J ρ l ∧ KC J ρ ∧ (∀ a, a < c + 221 → J a = I a ∧ tK ρ a = tK τ a ∧ ∀ j, tR ρ a j = tR τ a j) ∧ tK ρ (c + 236) = (2, 0)
theorem WO_of (h : R_C I τ c Z B C) (hK : KC I τ) (hP : PB I τ (c + 236) Z k J ρ l) : WO I τ c Z k J ρ l := by
  have hz := R_C_Z h
  have c70 := h.1.1
  obtain ⟨v1, v2⟩ := R_B_v h.2.2.2.2.2.2.2.2.2.2.2.2.2.2.2.2.2.2.1
  have p2 := hP.2.1
  have hn : ∀ a, a < c + 221 → ¬ (a = c + 236 ∨ a = tR τ (c + 236) 0) := fun a ha => by omega
  exact ⟨hP, KC_gf hK p2 (by omega) (fun a ha => hn a (by omega)), fun a ha => ⟨Gf_II p2 (by omega) (hn a ha), Gf_K p2 (by omega), fun j => Gf_R p2 (by omega) (hn a ha)⟩, hP.1.2.2.2.1⟩
theorem w_char (h : R_C I τ c Z B C) (hK : KC I τ) (hW : WO I τ c Z k J ρ l) (hl : l.length ≤ 60) {x : Nat} (hx : x < 128) : ∃ J' ρ', CC (d + 39) 2 [.ref (c + 236), .int (iN x)] (J, ρ) = some (.inl (some (.ref (c + 236))), (J', ρ')) ∧ WO I τ c Z (k + 1) J' ρ' (l ++ [x]) := by
  obtain ⟨J', ρ', q1, q2⟩ := c_appendChar (d := d + 35) hW.1.1 hl hx
  exact ⟨J', ρ', q1, WO_of h hK (PB_tr hW.1 q2)⟩
theorem w_int (h : R_C I τ c Z B C) (hK : KC I τ) (hW : WO I τ c Z k J ρ l) {n : Nat} (hn : n < 1000000) (hl : l.length + (dg n).length ≤ 61) : ∃ J' ρ', CC (d + 39) 19 [.ref (c + 236), .int (iN n)] (J, ρ) = some (.inl (some (.ref (c + 236))), (J', ρ')) ∧ WO I τ c Z (k + 1) J' ρ' (l ++ dg n) := by
  obtain ⟨J', ρ', q1, q2⟩ := c_appendInt (d := d + 35) hW.2.1.1 hW.1.1 hn hl
  exact ⟨J', ρ', q1, WO_of h hK (PB_tr hW.1 q2)⟩
theorem w_kg (h : R_C I τ c Z B C) (hK : KC I τ) (hW : WO I τ c Z k J ρ l) (hl : l.length ≤ 59) : ∃ J' ρ', CC (d + 39) 12 [.ref (c + 236), .ref 3] (J, ρ) = some (.inl (some (.ref (c + 236))), (J', ρ')) ∧ WO I τ c Z (k + 1) J' ρ' (l ++ [107, 103]) := by
  obtain ⟨J', ρ', q1, q2⟩ := c_appendString (d := d + 33) (m := [107, 103]) hW.1.1 (hW.2.1.2.1 (3, [107, 103]) (by decide)) (by show l.length + 2 ≤ 61; omega)
  exact ⟨J', ρ', q1, WO_of h hK (PB_tr hW.1 q2)⟩
theorem dg_len2 {n : Nat} (h : n < 100) : (dg n).length ≤ 2 := by
  by_cases q : n < 10
  · rw [dg_s q]; exact Nat.le_succ _
  · rw [dg_m q h]; exact Nat.le_refl _
theorem dg_len6 {n : Nat} (h : n < 1000000) : (dg n).length ≤ 6 := by
  rcases (show n < 10 ∨ (10 ≤ n ∧ n < 100) ∨ (100 ≤ n ∧ n < 1000) ∨ (1000 ≤ n ∧ n < 10000) ∨ (10000 ≤ n ∧ n < 100000) ∨ 100000 ≤ n by omega) with q | q | q | q | q | q
  · rw [dg_len 1 n (by omega) (by omega) (Or.inl rfl)]; omega
  · rw [dg_len 2 n (by omega) (by omega) (Or.inr (by omega))]; omega
  · rw [dg_len 3 n (by omega) (by omega) (Or.inr (by omega))]; omega
  · rw [dg_len 4 n (by omega) (by omega) (Or.inr (by omega))]; omega
  · rw [dg_len 5 n (by omega) (by omega) (Or.inr (by omega))]; omega
  · rw [dg_len 6 n (by omega) (by omega) (Or.inr (by omega))]; omega
/-- a statue written -/
def txS (S : sS) (k : Nat) : List Nat := [] ++ dg k ++ [64] ++ dg (p_pl (s_P S) k) ++ [62] ++ dg (p_ho (s_P S) k) ++ [32] ++ dg (p_we (s_P S) k) ++ [107, 103] ++ (if bU (s_U S) k = true then [33] else [])
def q_rS (C : sC) (x : Int32) : qR := if inN (p_ns (s_P (g_S C))) x = true then .inl (iN (txS (g_S C) (tn x)).length) else .inr 0
def t_rS (C : sC) (x : Int32) : sC := if inN (p_ns (s_P (g_S C))) x = true then cO C (txS (g_S C) (tn x)) else C
theorem app_c {l m : List Nat} (h1 : ∀ x ∈ l, x < 128) (h2 : ∀ x ∈ m, x < 128) : ∀ x ∈ l ++ m, x < 128 := fun x hx => by
  rcases List.mem_append.mp hx with hx | hx
  · exact h1 x hx
  · exact h2 x hx
theorem dg_128 (n : Nat) : ∀ x ∈ dg n, x < 128 := fun x hx => by have := dg_c n x hx; omega
theorem one_128 {n : Nat} (h : n < 128) : ∀ x ∈ [n], x < 128 := fun x hx => by rw [List.mem_singleton] at hx; omega
theorem p_renderStatue (h : R_C I τ c Z B C) (hK : KC I τ) (x : Int32) : ∃ I' τ', CC (d + 40) 180 [.ref c, .int x] (I, τ) = some (oO (q_rS C x), (I', τ')) ∧ PC I τ c Z B I' τ' (t_rS C x) := by
  have h0 := h
  obtain ⟨g1, g2, g3, g4, g5, gx⟩ := h
  have x14 := gx.2.2.2.2.2.2.2.2.2.2.2.2.2.1
  have x15 := gx.2.2.2.2.2.2.2.2.2.2.2.2.2.2.1
  have c70 := g1.1
  have k12 := g1.2.1
  have e0 := g1.2.2.1
  have e9 := g1.2.2.2.2.2.2.2.2.2.2.1
  have hl := g1.2.2.2.2.2.2.2.2.2.2.2.1
  have k8 := hl.2.1
  have lp := hl.2.2.2.2.2.1
  have lw := hl.2.2.2.2.2.2.1
  have w1 := g3.2.1.1
  have w2 := g3.2.1.2.1
  have k2 : tK τ (c + 236) = (2, 0) := x14.2.2.2.1
  have q := c_reqS (d := d + 38) h0 x
  unfold q_rS t_rS
  cases hx : inN (p_ns (s_P (g_S C))) x with
  | false =>
    rw [hx] at q
    simp only [Bool.false_eq_true, if_false] at q
    refine ⟨_, _, ?_, PC_nw h0⟩
    rw [c_180, b_180_0]
    simp (disch := omega) only [rd_I_mk, rd_R_mk, rd_L_mk, rd_D_mk, kd_mk, wr_I_mk, cp_mk, gd_true, bd_ret, bd_thr, vl_none, vl_some, iN_add, iN_mul, iN_sub, iN_lt, iN_eq, iN_n, iN_m1, iN_pred, vp_iN, K0_le, nr_b0, nr_b1, m1_lt, lt_m1, iN_ne_m1, m1_ne_iN, not_lt_z, true_and, and_true, and_self, or_true, true_or, or_false, false_or, if_true, if_false, ↓reduceIte, eq_self, up_at, up_a, up_k, cp_c, cp_b, Nat.zero_add, Nat.add_zero, Nat.sub_zero, Nat.le_refl, Nat.add_sub_cancel, fu_at, fu_ne, iN_nz, n10_f, n01_f, ofN, qq_at_100, k110b, Nat.lt_irrefl, Nat.not_lt_zero, ne_eq, not_false_eq_true, not_true_eq_false, k12, q, Bool.false_eq_true, oO]
  | true =>
    rw [hx, if_pos rfl] at q
    obtain ⟨k, hk, rfl⟩ := (inN_iff (by omega)).mp hx
    rw [if_pos rfl, if_pos rfl, tn_iN (by omega)]
    obtain ⟨y1, y2, y3, y4⟩ := g3.2.1.2.2.2.1 k hk
    have l1 := dg_len2 (n := k) (by omega)
    have l2 := dg_len2 (n := p_pl (s_P (g_S C)) k) (by omega)
    have l3 := dg_len2 (n := p_ho (s_P (g_S C)) k) (by omega)
    have l4 := dg_len2 (n := p_we (s_P (g_S C)) k) (by omega)
    obtain ⟨J0, ρ0, s0, t0⟩ := c_setLength (d := d + 35) x14 (by omega)
    have W0 := WO_of h0 hK t0
    obtain ⟨J1, ρ1, s1, W1⟩ := w_int (d := d) h0 hK W0 (n := k) (by omega) (by simp only [List.length_nil]; omega)
    obtain ⟨J2, ρ2, s2, W2⟩ := w_char (d := d) h0 hK W1 (x := 64) (by simp only [List.length_append, List.length_nil]; omega) (by omega)
    obtain ⟨J3, ρ3, s3, W3⟩ := w_int (d := d) h0 hK W2 (n := p_pl (s_P (g_S C)) k) (by omega) (by simp only [List.length_append, List.length_nil, List.length_singleton]; omega)
    obtain ⟨J4, ρ4, s4, W4⟩ := w_char (d := d) h0 hK W3 (x := 62) (by simp only [List.length_append, List.length_nil, List.length_singleton]; omega) (by omega)
    obtain ⟨J5, ρ5, s5, W5⟩ := w_int (d := d) h0 hK W4 (n := p_ho (s_P (g_S C)) k) (by omega) (by simp only [List.length_append, List.length_nil, List.length_singleton]; omega)
    obtain ⟨J6, ρ6, s6, W6⟩ := w_char (d := d) h0 hK W5 (x := 32) (by simp only [List.length_append, List.length_nil, List.length_singleton]; omega) (by omega)
    obtain ⟨J7, ρ7, s7, W7⟩ := w_int (d := d) h0 hK W6 (n := p_we (s_P (g_S C)) k) (by omega) (by simp only [List.length_append, List.length_nil, List.length_singleton]; omega)
    obtain ⟨J8, ρ8, s8, W8⟩ := w_kg (d := d) h0 hK W7 (by simp only [List.length_append, List.length_nil, List.length_singleton]; omega)
    have hK0 : ∀ a, a < c + 221 → tK ρ0 a = tK τ a := fun a ha => (W0.2.2.1 a ha).2.1
    have hR0 : ∀ a j, a < c + 221 → tR ρ0 a j = tR τ a j := fun a j ha => (W0.2.2.1 a ha).2.2 j
    have hb0 : tK ρ0 (c + 236) = (2, 0) := W0.2.2.2
    have hK1 : ∀ a, a < c + 221 → tK ρ1 a = tK τ a := fun a ha => (W1.2.2.1 a ha).2.1
    have hR1 : ∀ a j, a < c + 221 → tR ρ1 a j = tR τ a j := fun a j ha => (W1.2.2.1 a ha).2.2 j
    have hb1 : tK ρ1 (c + 236) = (2, 0) := W1.2.2.2
    have hK2 : ∀ a, a < c + 221 → tK ρ2 a = tK τ a := fun a ha => (W2.2.2.1 a ha).2.1
    have hR2 : ∀ a j, a < c + 221 → tR ρ2 a j = tR τ a j := fun a j ha => (W2.2.2.1 a ha).2.2 j
    have hb2 : tK ρ2 (c + 236) = (2, 0) := W2.2.2.2
    have hK3 : ∀ a, a < c + 221 → tK ρ3 a = tK τ a := fun a ha => (W3.2.2.1 a ha).2.1
    have hR3 : ∀ a j, a < c + 221 → tR ρ3 a j = tR τ a j := fun a j ha => (W3.2.2.1 a ha).2.2 j
    have hb3 : tK ρ3 (c + 236) = (2, 0) := W3.2.2.2
    have hK4 : ∀ a, a < c + 221 → tK ρ4 a = tK τ a := fun a ha => (W4.2.2.1 a ha).2.1
    have hR4 : ∀ a j, a < c + 221 → tR ρ4 a j = tR τ a j := fun a j ha => (W4.2.2.1 a ha).2.2 j
    have hb4 : tK ρ4 (c + 236) = (2, 0) := W4.2.2.2
    have hK5 : ∀ a, a < c + 221 → tK ρ5 a = tK τ a := fun a ha => (W5.2.2.1 a ha).2.1
    have hR5 : ∀ a j, a < c + 221 → tR ρ5 a j = tR τ a j := fun a j ha => (W5.2.2.1 a ha).2.2 j
    have hb5 : tK ρ5 (c + 236) = (2, 0) := W5.2.2.2
    have hK6 : ∀ a, a < c + 221 → tK ρ6 a = tK τ a := fun a ha => (W6.2.2.1 a ha).2.1
    have hR6 : ∀ a j, a < c + 221 → tR ρ6 a j = tR τ a j := fun a j ha => (W6.2.2.1 a ha).2.2 j
    have hb6 : tK ρ6 (c + 236) = (2, 0) := W6.2.2.2
    have hK7 : ∀ a, a < c + 221 → tK ρ7 a = tK τ a := fun a ha => (W7.2.2.1 a ha).2.1
    have hR7 : ∀ a j, a < c + 221 → tR ρ7 a j = tR τ a j := fun a j ha => (W7.2.2.1 a ha).2.2 j
    have hb7 : tK ρ7 (c + 236) = (2, 0) := W7.2.2.2
    have hK8 : ∀ a, a < c + 221 → tK ρ8 a = tK τ a := fun a ha => (W8.2.2.1 a ha).2.1
    have hR8 : ∀ a j, a < c + 221 → tR ρ8 a j = tR τ a j := fun a j ha => (W8.2.2.1 a ha).2.2 j
    have hb8 : tK ρ8 (c + 236) = (2, 0) := W8.2.2.2
    have f0 := hl.2.2.1
    have f1 := hl.2.2.2.1
    have k7 := lp.2.1
    have kW := lw.2.1
    have r4 : J2 (c + 1 + 1 + 3) k = iN (p_pl (s_P (g_S C)) k) := by rw [(W2.2.2.1 _ (by omega)).1]; exact g2.1.2.2.2.2.1 k hk
    have r5 : J4 (c + 1 + 1 + 4) k = iN (p_ho (s_P (g_S C)) k) := by rw [(W4.2.2.1 _ (by omega)).1]; exact g2.1.2.2.2.2.2.1 k hk
    have r3 : J6 (c + 1 + 1 + 2) k = iN (p_we (s_P (g_S C)) k) := by rw [(W6.2.2.1 _ (by omega)).1]; exact g2.1.2.2.2.1 k hk
    have j3 := lp.2.2.2.1
    have j4 := lp.2.2.2.2.1
    have j5 := lp.2.2.2.2.2.1
    have i2 := lp.2.2.2.2.2.2.2.2.1
    have i3 := lp.2.2.2.2.2.2.2.2.2.1
    have i4 := lp.2.2.2.2.2.2.2.2.2.2.1
    have q6 := c_bind (d := d + 39) (τ := ρ8) (I := J8) (L_W_T lw (fun a h1 h2 => (W8.2.2.1 a (by omega)).2)) (R_U_same g2.2.1 (fun a h1 h2 => (W8.2.2.1 a (by omega)).1)) g3.2.2.1 (x := k) (by omega)
    have hall : ∀ x ∈ ([] ++ dg k ++ [64] ++ dg (p_pl (s_P (g_S C)) k) ++ [62] ++ dg (p_ho (s_P (g_S C)) k) ++ [32] ++ dg (p_we (s_P (g_S C)) k) ++ [107, 103] : List Nat), x < 128 :=
      app_c (app_c (app_c (app_c (app_c (app_c (app_c (app_c (fun x hx => absurd hx List.not_mem_nil) (dg_128 _)) (one_128 (by omega))) (dg_128 _)) (one_128 (by omega))) (dg_128 _)) (one_128 (by omega))) (dg_128 _)) (by decide)
    have main : ∀ (out : qq_O × qq_S), RR (d + 39 + 1) 180 52 [some (.ref c), some (.int (iN k))] [.int (if bU (s_U (g_S C)) k = true then iN 1 else iN 0)] (J8, ρ8) = some out → CC (d + 40) 180 [.ref c, .int (iN k)] (I, τ) = some out := fun out ho => by
      rw [c_180, b_180_0]
      simp (disch := omega) only [rd_I_mk, rd_R_mk, rd_L_mk, rd_D_mk, kd_mk, wr_I_mk, cp_mk, gd_true, bd_ret, bd_thr, vl_none, vl_some, iN_add, iN_mul, iN_sub, iN_lt, iN_eq, iN_n, iN_m1, iN_pred, vp_iN, K0_le, nr_b0, nr_b1, m1_lt, lt_m1, iN_ne_m1, m1_ne_iN, not_lt_z, true_and, and_true, and_self, or_true, true_or, or_false, false_or, if_true, if_false, ↓reduceIte, eq_self, up_at, up_a, up_k, cp_c, cp_b, Nat.zero_add, Nat.add_zero, Nat.sub_zero, Nat.le_refl, Nat.add_sub_cancel, fu_at, fu_ne, iN_nz, n10_f, n01_f, ofN, qq_at_100, k110b, Nat.lt_irrefl, Nat.not_lt_zero, ne_eq, not_false_eq_true, not_true_eq_false, k12, e0, e9, k2, q, b_180_3, s0, b_180_7, hK0, hR0, hb0, s1, b_180_11, hb1, s2, b_180_13, hK2, hR2, hb2, k8, f0, k7, j4, i3, r4, s3, b_180_20, hK3, hR3, hb3, s4, b_180_25, hK4, hR4, hb4, j5, i4, r5, s5, b_180_32, hK5, hR5, hb5, s6, b_180_37, hK6, hR6, hb6, j3, i2, r3, s7, b_180_44, hb7, s8, b_180_46, hK8, hR8, f1, kW, q6]
      exact ho
    by_cases hb : bU (s_U (g_S C)) k = true
    · rw [if_pos hb] at main
      unfold txS
      rw [if_pos hb]
      obtain ⟨J9, ρ9, s9, W9⟩ := w_char (d := d) h0 hK W8 (x := 33) (by simp only [List.length_append, List.length_nil, List.length_singleton, List.length_cons]; omega) (by omega)
      have hK9 : ∀ a, a < c + 221 → tK ρ9 a = tK τ a := fun a ha => (W9.2.2.1 a ha).2.1
      have hR9 : ∀ a j, a < c + 221 → tR ρ9 a j = tR τ a j := fun a j ha => (W9.2.2.1 a ha).2.2 j
      have q9 := c_length (d := d + 38) W9.1.1
      have hb9 : tK ρ9 (c + 236) = (2, 0) := W9.2.2.2
      refine ⟨J9, ρ9, main _ ?_, PC_out h0 (by omega) W9.1 (by simp only [List.length_append, List.length_nil, List.length_singleton, List.length_cons]; omega) (app_c hall (one_128 (by omega)))⟩
      rw [b_180_52]
      simp (disch := omega) only [rd_I_mk, rd_R_mk, rd_L_mk, rd_D_mk, kd_mk, wr_I_mk, cp_mk, gd_true, bd_ret, bd_thr, vl_none, vl_some, iN_add, iN_mul, iN_sub, iN_lt, iN_eq, iN_n, iN_m1, iN_pred, vp_iN, K0_le, nr_b0, nr_b1, m1_lt, lt_m1, iN_ne_m1, m1_ne_iN, not_lt_z, true_and, and_true, and_self, or_true, true_or, or_false, false_or, if_true, if_false, ↓reduceIte, eq_self, up_at, up_a, up_k, cp_c, cp_b, Nat.zero_add, Nat.add_zero, Nat.sub_zero, Nat.le_refl, Nat.add_sub_cancel, fu_at, fu_ne, iN_nz, n10_f, n01_f, ofN, qq_at_100, k110b, Nat.lt_irrefl, Nat.not_lt_zero, ne_eq, not_false_eq_true, not_true_eq_false, hK8, hR8, k12, e9, hb8, s9, b_180_57, b_180_58, hK9, hR9, hb9, q9, b_180_61, oO]
    · rw [if_neg hb] at main
      unfold txS
      rw [if_neg hb, List.append_nil]
      have q9 := c_length (d := d + 38) W8.1.1
      refine ⟨J8, ρ8, main _ ?_, PC_out h0 (by omega) W8.1 (by simp only [List.length_append, List.length_nil, List.length_singleton, List.length_cons]; omega) hall⟩
      rw [b_180_52]
      simp (disch := omega) only [rd_I_mk, rd_R_mk, rd_L_mk, rd_D_mk, kd_mk, wr_I_mk, cp_mk, gd_true, bd_ret, bd_thr, vl_none, vl_some, iN_add, iN_mul, iN_sub, iN_lt, iN_eq, iN_n, iN_m1, iN_pred, vp_iN, K0_le, nr_b0, nr_b1, m1_lt, lt_m1, iN_ne_m1, m1_ne_iN, not_lt_z, true_and, and_true, and_self, or_true, true_or, or_false, false_or, if_true, if_false, ↓reduceIte, eq_self, up_at, up_a, up_k, cp_c, cp_b, Nat.zero_add, Nat.add_zero, Nat.sub_zero, Nat.le_refl, Nat.add_sub_cancel, fu_at, fu_ne, iN_nz, n10_f, n01_f, ofN, qq_at_100, k110b, Nat.lt_irrefl, Nat.not_lt_zero, ne_eq, not_false_eq_true, not_true_eq_false, b_180_58, hK8, hR8, k12, e9, hb8, q9, b_180_61, oO]
end RE
