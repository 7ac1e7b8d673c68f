/-! PUBLIC CALLS: rendering a writ -/
def txC (n : Nat) : List Nat := if n = 0 then [] else [60] ++ dg (n - 1)
def txW (S : sS) (k : Nat) : List Nat := [] ++ dg (w_id (ug (s_U S) k)) ++ [58] ++ dg (w_of (ug (s_U S) k)) ++ txC (w_ca (ug (s_U S) k)) ++ [35] ++ dg (w_la (ug (s_U S) k)) ++ [36] ++ dg (w_ba (ug (s_U S) k)) ++ (if w_pd (ug (s_U S) k) = 1 then [43] else [])
def q_rW (C : sC) (x : Int32) : qR := match fiX (s_U (g_S C)) x with
  | none => .inr 3
  | some k => .inl (iN (txW (g_S C) k).length)
def t_rW (C : sC) (x : Int32) : sC := match fiX (s_U (g_S C)) x with
  | none => C
  | some k => cO C (txW (g_S C) k)
section RW
variable {d : Nat} {I I' J : qq_I} {τ τ' ρ : qq_R} {c Z B k : Nat} {C : sC} {l : List Nat}
theorem w_tail (h : R_C I τ c Z B C) (hK : KC I τ) {k n : Nat} (hk : k < un (s_U (g_S C))) {J0 : qq_I} {ρ0 : qq_R} (W0 : WO I τ c Z n J0 ρ0 l) (hn : n ≤ 12) (hl : l.length ≤ 30) (hc : ∀ x ∈ l, x < 128) (x : Int32) :
    ∃ I' τ', RR (d + 39 + 1) 181 40 [some (.ref c), some (.int x), some (.int (iN k)), some (.ref (c + 1 + 7))] [] (J0, ρ0) = some (.inl (some (.int (iN (l ++ [35] ++ dg (w_la (ug (s_U (g_S C)) k)) ++ [36] ++ dg (w_ba (ug (s_U (g_S C)) k)) ++ (if w_pd (ug (s_U (g_S C)) k) = 1 then [43] else [])).length))), (I', τ')) ∧ PC I τ c Z B I' τ' (cO C (l ++ [35] ++ dg (w_la (ug (s_U (g_S C)) k)) ++ [36] ++ dg (w_ba (ug (s_U (g_S C)) k)) ++ (if w_pd (ug (s_U (g_S C)) k) = 1 then [43] else []))) := by
    have h0 := h
    obtain ⟨g1, g2, g3, g4, g5, gx⟩ := h
    have c70 := g1.1
    have k12 := g1.2.1
    have e9 := g1.2.2.2.2.2.2.2.2.2.2.1
    have hl' := g1.2.2.2.2.2.2.2.2.2.2.2.1
    have lw := hl'.2.2.2.2.2.2.1
    have w3 := g3.2.2.1.1
    obtain ⟨y1, y2, y3, y4, y5, y6, -⟩ := g3.2.2.1.2.2.2 k hk
    have l1 := dg_len6 y6
    have l2 := dg_len2 (n := w_ba (ug (s_U (g_S C)) k)) (by omega)
    have kW := lw.2.1
    have u4 := lw.2.2.2.2.1
    have u5 := lw.2.2.2.2.2.1
    have u7 := lw.2.2.2.2.2.2.2.1
    have v3 := lw.2.2.2.2.2.2.2.2.2.2.1
    have v4 := lw.2.2.2.2.2.2.2.2.2.2.2.1
    have v6 := lw.2.2.2.2.2.2.2.2.2.2.2.2.2
    obtain ⟨J1, ρ1, s1, W1⟩ := w_char (d := d) h0 hK W0 (x := 35) (by omega) (by omega)
    obtain ⟨J2, ρ2, s2, W2⟩ := w_int (d := d) h0 hK W1 (n := w_la (ug (s_U (g_S C)) k)) y6 (by simp only [List.length_append, List.length_singleton]; omega)
    obtain ⟨J3, ρ3, s3, W3⟩ := w_char (d := d) h0 hK W2 (x := 36) (by simp only [List.length_append, List.length_singleton]; omega) (by omega)
    obtain ⟨J4, ρ4, s4, W4⟩ := w_int (d := d) h0 hK W3 (n := w_ba (ug (s_U (g_S C)) k)) (by omega) (by simp only [List.length_append, List.length_singleton]; omega)
    have hK0 : ∀ a, a < c + 221 → tK ρ0 a = tK τ a := fun a ha => (W0.2.2.1 a ha).2.1
    have hR0 : ∀ a j, a < c + 221 → tR ρ0 a j = tR τ a j := fun a j ha => (W0.2.2.1 a ha).2.2 j
    have hb0 : tK ρ0 (c + 236) = (2, 0) := W0.2.2.2
    have hK1 : ∀ a, a < c + 221 → tK ρ1 a = tK τ a := fun a ha => (W1.2.2.1 a ha).2.1
    have hR1 : ∀ a j, a < c + 221 → tR ρ1 a j = tR τ a j := fun a j ha => (W1.2.2.1 a ha).2.2 j
    have hb1 : tK ρ1 (c + 236) = (2, 0) := W1.2.2.2
    have hK2 : ∀ a, a < c + 221 → tK ρ2 a = tK τ a := fun a ha => (W2.2.2.1 a ha).2.1
    have hR2 : ∀ a j, a < c + 221 → tR ρ2 a j = tR τ a j := fun a j ha => (W2.2.2.1 a ha).2.2 j
    have hb2 : tK ρ2 (c + 236) = (2, 0) := W2.2.2.2
    have hK3 : ∀ a, a < c + 221 → tK ρ3 a = tK τ a := fun a ha => (W3.2.2.1 a ha).2.1
    have hR3 : ∀ a j, a < c + 221 → tR ρ3 a j = tR τ a j := fun a j ha => (W3.2.2.1 a ha).2.2 j
    have hb3 : tK ρ3 (c + 236) = (2, 0) := W3.2.2.2
    have hK4 : ∀ a, a < c + 221 → tK ρ4 a = tK τ a := fun a ha => (W4.2.2.1 a ha).2.1
    have hR4 : ∀ a j, a < c + 221 → tR ρ4 a j = tR τ a j := fun a j ha => (W4.2.2.1 a ha).2.2 j
    have hb4 : tK ρ4 (c + 236) = (2, 0) := W4.2.2.2
    have r4 : J1 (c + 1 + 7 + 3) k = iN (w_la (ug (s_U (g_S C)) k)) := by rw [(W1.2.2.1 _ (by omega)).1]; exact g2.2.1.2.2.2.2.1 k hk
    have r5 : J3 (c + 1 + 7 + 4) k = iN (w_ba (ug (s_U (g_S C)) k)) := by rw [(W3.2.2.1 _ (by omega)).1]; exact g2.2.1.2.2.2.2.2.1 k hk
    have r7 : J4 (c + 1 + 7 + 6) k = iN (w_pd (ug (s_U (g_S C)) k)) := by rw [(W4.2.2.1 _ (by omega)).1]; exact g2.2.1.2.2.2.2.2.2.2 k hk
    have hall : ∀ x ∈ l ++ [35] ++ dg (w_la (ug (s_U (g_S C)) k)) ++ [36] ++ dg (w_ba (ug (s_U (g_S C)) k)), x < 128 := app_c (app_c (app_c (app_c hc (one_128 (by omega))) (dg_128 _)) (one_128 (by omega))) (dg_128 _)
    by_cases hb : w_pd (ug (s_U (g_S C)) k) = 1
    · rw [if_pos hb]
      rw [hb] at r7
      obtain ⟨J5, ρ5, s5, W5⟩ := w_char (d := d) h0 hK W4 (x := 43) (by simp only [List.length_append, List.length_singleton]; omega) (by omega)
      have hK5 : ∀ a, a < c + 221 → tK ρ5 a = tK τ a := fun a ha => (W5.2.2.1 a ha).2.1
      have hR5 : ∀ a j, a < c + 221 → tR ρ5 a j = tR τ a j := fun a j ha => (W5.2.2.1 a ha).2.2 j
      have hb5 : tK ρ5 (c + 236) = (2, 0) := W5.2.2.2
      have q9 := c_length (d := d + 38) W5.1.1
      refine ⟨J5, ρ5, ?_, PC_out h0 (by omega) W5.1 (by simp only [List.length_append, List.length_singleton]; omega) (app_c hall (one_128 (by omega)))⟩
      rw [b_181_40]
      simp (disch := omega) only [rd_I_mk, rd_R_mk, rd_L_mk, rd_D_mk, kd_mk, wr_I_mk, cp_mk, gd_true, bd_ret, bd_thr, vl_none, vl_some, iN_add, iN_mul, iN_sub, iN_lt, iN_eq, iN_n, iN_m1, iN_pred, vp_iN, K0_le, nr_b0, nr_b1, m1_lt, lt_m1, iN_ne_m1, m1_ne_iN, not_lt_z, true_and, and_true, and_self, or_true, true_or, or_false, false_or, if_true, if_false, ↓reduceIte, eq_self, up_at, up_a, up_k, cp_c, cp_b, Nat.zero_add, Nat.add_zero, Nat.sub_zero, Nat.le_refl, Nat.add_sub_cancel, fu_at, fu_ne, iN_nz, n10_f, n01_f, ofN, qq_at_100, k110b, Nat.lt_irrefl, Nat.not_lt_zero, ne_eq, not_false_eq_true, not_true_eq_false, hK0, hR0, k12, e9, hb0, s1, b_181_44, hK1, hR1, hb1, kW, u4, v3, r4, s2, b_181_49, hK2, hR2, hb2, s3, b_181_54, hK3, hR3, hb3, u5, v4, r5, s4, b_181_59, hK4, hR4, hb4, u7, v6, r7, s5, b_181_69, b_181_70, hK5, hR5, hb5, q9, b_181_73]
    · rw [if_neg hb, List.append_nil]
      have hb' : w_pd (ug (s_U (g_S C)) k) = 0 := by omega
      rw [hb'] at r7
      have q9 := c_length (d := d + 38) W4.1.1
      refine ⟨J4, ρ4, ?_, PC_out h0 (by omega) W4.1 (by simp only [List.length_append, List.length_singleton]; omega) hall⟩
      rw [b_181_40]
      simp (disch := omega) only [rd_I_mk, rd_R_mk, rd_L_mk, rd_D_mk, kd_mk, wr_I_mk, cp_mk, gd_true, bd_ret, bd_thr, vl_none, vl_some, iN_add, iN_mul, iN_sub, iN_lt, iN_eq, iN_n, iN_m1, iN_pred, vp_iN, K0_le, nr_b0, nr_b1, m1_lt, lt_m1, iN_ne_m1, m1_ne_iN, not_lt_z, true_and, and_true, and_self, or_true, true_or, or_false, false_or, if_true, if_false, ↓reduceIte, eq_self, up_at, up_a, up_k, cp_c, cp_b, Nat.zero_add, Nat.add_zero, Nat.sub_zero, Nat.le_refl, Nat.add_sub_cancel, fu_at, fu_ne, iN_nz, n10_f, n01_f, ofN, qq_at_100, k110b, Nat.lt_irrefl, Nat.not_lt_zero, ne_eq, not_false_eq_true, not_true_eq_false, hK0, hR0, k12, e9, hb0, s1, b_181_44, hK1, hR1, hb1, kW, u4, v3, r4, s2, b_181_49, hK2, hR2, hb2, s3, b_181_54, hK3, hR3, hb3, u5, v4, r5, s4, b_181_59, hK4, hR4, hb4, u7, v6, r7, b_181_70, q9, b_181_73]
theorem p_renderWrit (h : R_C I τ c Z B C) (hK : KC I τ) (x : Int32) : ∃ I' τ', CC (d + 40) 181 [.ref c, .int x] (I, τ) = some (oO (q_rW C x), (I', τ')) ∧ PC I τ c Z B I' τ' (t_rW C x) := by
  have h0 := h
  obtain ⟨g1, g2, g3, g4, g5, gx⟩ := h
  have x14 := gx.2.2.2.2.2.2.2.2.2.2.2.2.2.1
  have x15 := gx.2.2.2.2.2.2.2.2.2.2.2.2.2.2.1
  have c70 := g1.1
  have k12 := g1.2.1
  have e0 := g1.2.2.1
  have e9 := g1.2.2.2.2.2.2.2.2.2.2.1
  have hl := g1.2.2.2.2.2.2.2.2.2.2.2.1
  have k8 := hl.2.1
  have f1 := hl.2.2.2.1
  have lw := hl.2.2.2.2.2.2.1
  have w3 := g3.2.2.1.1
  have k2 : tK τ (c + 236) = (2, 0) := x14.2.2.2.1
  have q := c_pos (d := d + 38) h0 x
  unfold q_rW t_rW
  cases hx : fiX (s_U (g_S C)) x with
  | none =>
    rw [hx] at q
    have q : CC (d + 39) 199 [.ref c, .int x] (I, τ) = some (.inr 3, (nwI τ I, nT τ (201, 0) 6)) := q
    refine ⟨_, _, ?_, PC_nw h0⟩
    rw [c_181, b_181_0]
    simp (disch := omega) only [rd_I_mk, rd_R_mk, rd_L_mk, rd_D_mk, kd_mk, wr_I_mk, cp_mk, gd_true, bd_ret, bd_thr, vl_none, vl_some, iN_add, iN_mul, iN_sub, iN_lt, iN_eq, iN_n, iN_m1, iN_pred, vp_iN, K0_le, nr_b0, nr_b1, m1_lt, lt_m1, iN_ne_m1, m1_ne_iN, not_lt_z, true_and, and_true, and_self, or_true, true_or, or_false, false_or, if_true, if_false, ↓reduceIte, eq_self, up_at, up_a, up_k, cp_c, cp_b, Nat.zero_add, Nat.add_zero, Nat.sub_zero, Nat.le_refl, Nat.add_sub_cancel, fu_at, fu_ne, iN_nz, n10_f, n01_f, ofN, qq_at_100, k110b, Nat.lt_irrefl, Nat.not_lt_zero, ne_eq, not_false_eq_true, not_true_eq_false, k12, q, oO]
  | some k =>
    have hk := fiX_lt hx
    have hxe := (beq_iff_eq.mp (ff_some _ _ _ hx).2.2.1).symm
    subst hxe
    rw [hx] at q
    have q : CC (d + 39) 199 [.ref c, .int (iN (w_id (ug (s_U (g_S C)) k)))] (I, τ) = some (.inl (some (.int (iN k))), (I, τ)) := q
    obtain ⟨y1, y2, y3, y4, y5, y6, y7⟩ := g3.2.2.1.2.2.2 k hk
    have y8 := g3.2.2.1.2.1
    have l1 := dg_len6 (n := w_id (ug (s_U (g_S C)) k)) (by omega)
    have l2 := dg_len2 (n := w_of (ug (s_U (g_S C)) k)) (by omega)
    obtain ⟨J0, ρ0, s0, t0⟩ := c_setLength (d := d + 35) x14 (by omega)
    have W0 := WO_of h0 hK t0
    obtain ⟨J1, ρ1, s1, W1⟩ := w_int (d := d) h0 hK W0 (n := w_id (ug (s_U (g_S C)) k)) (by omega) (by simp only [List.length_nil]; omega)
    obtain ⟨J2, ρ2, s2, W2⟩ := w_char (d := d) h0 hK W1 (x := 58) (by simp only [List.length_append, List.length_nil]; omega) (by omega)
    obtain ⟨J3, ρ3, s3, W3⟩ := w_int (d := d) h0 hK W2 (n := w_of (ug (s_U (g_S C)) k)) (by omega) (by simp only [List.length_append, List.length_nil, List.length_singleton]; omega)
    have hK0 : ∀ a, a < c + 221 → tK ρ0 a = tK τ a := fun a ha => (W0.2.2.1 a ha).2.1
    have hR0 : ∀ a j, a < c + 221 → tR ρ0 a j = tR τ a j := fun a j ha => (W0.2.2.1 a ha).2.2 j
    have hb0 : tK ρ0 (c + 236) = (2, 0) := W0.2.2.2
    have hK1 : ∀ a, a < c + 221 → tK ρ1 a = tK τ a := fun a ha => (W1.2.2.1 a ha).2.1
    have hR1 : ∀ a j, a < c + 221 → tR ρ1 a j = tR τ a j := fun a j ha => (W1.2.2.1 a ha).2.2 j
    have hb1 : tK ρ1 (c + 236) = (2, 0) := W1.2.2.2
    have hK2 : ∀ a, a < c + 221 → tK ρ2 a = tK τ a := fun a ha => (W2.2.2.1 a ha).2.1
    have hR2 : ∀ a j, a < c + 221 → tR ρ2 a j = tR τ a j := fun a j ha => (W2.2.2.1 a ha).2.2 j
    have hb2 : tK ρ2 (c + 236) = (2, 0) := W2.2.2.2
    have hK3 : ∀ a, a < c + 221 → tK ρ3 a = tK τ a := fun a ha => (W3.2.2.1 a ha).2.1
    have hR3 : ∀ a j, a < c + 221 → tR ρ3 a j = tR τ a j := fun a j ha => (W3.2.2.1 a ha).2.2 j
    have hb3 : tK ρ3 (c + 236) = (2, 0) := W3.2.2.2
    have kW := lw.2.1
    have u3 := lw.2.2.2.1
    have u6 := lw.2.2.2.2.2.2.1
    have v2 := lw.2.2.2.2.2.2.2.2.2.1
    have v5 := lw.2.2.2.2.2.2.2.2.2.2.2.2.1
    have r3 : J2 (c + 1 + 7 + 2) k = iN (w_of (ug (s_U (g_S C)) k)) := by rw [(W2.2.2.1 _ (by omega)).1]; exact g2.2.1.2.2.2.1 k hk
    have r6 : ∀ J ρ n m, WO I τ c Z n J ρ m → J (c + 1 + 7 + 5) k = caC (w_ca (ug (s_U (g_S C)) k)) := fun J ρ n m W => by rw [(W.2.2.1 _ (by omega)).1]; exact g2.2.1.2.2.2.2.2.2.1 k hk
    have r63 := r6 _ _ _ _ W3
    have hall : ∀ x ∈ ([] ++ dg (w_id (ug (s_U (g_S C)) k)) ++ [58] ++ dg (w_of (ug (s_U (g_S C)) k)) : List Nat), x < 128 := app_c (app_c (app_c (fun x hx => absurd hx List.not_mem_nil) (dg_128 _)) (one_128 (by omega))) (dg_128 _)
    have main : ∀ (out : qq_O × qq_S), RR (d + 39 + 1) 181 23 [some (.ref c), some (.int (iN (w_id (ug (s_U (g_S C)) k)))), some (.int (iN k)), some (.ref (c + 1 + 7))] [.ref (c + 236)] (J3, ρ3) = some out → CC (d + 40) 181 [.ref c, .int (iN (w_id (ug (s_U (g_S C)) k)))] (I, τ) = some out := fun out ho => by
      rw [c_181, b_181_0]
      simp (disch := omega) only [rd_I_mk, rd_R_mk, rd_L_mk, rd_D_mk, kd_mk, wr_I_mk, cp_mk, gd_true, bd_ret, bd_thr, vl_none, vl_some, iN_add, iN_mul, iN_sub, iN_lt, iN_eq, iN_n, iN_m1, iN_pred, vp_iN, K0_le, nr_b0, nr_b1, m1_lt, lt_m1, iN_ne_m1, m1_ne_iN, not_lt_z, true_and, and_true, and_self, or_true, true_or, or_false, false_or, if_true, if_false, ↓reduceIte, eq_self, up_at, up_a, up_k, cp_c, cp_b, Nat.zero_add, Nat.add_zero, Nat.sub_zero, Nat.le_refl, Nat.add_sub_cancel, fu_at, fu_ne, iN_nz, n10_f, n01_f, ofN, qq_at_100, k110b, Nat.lt_irrefl, Nat.not_lt_zero, ne_eq, not_false_eq_true, not_true_eq_false, k12, e0, e9, k8, f1, k2, q, b_181_3, s0, b_181_12, hK0, hR0, hb0, s1, b_181_16, hb1, s2, b_181_18, hK2, hR2, hb2, kW, u3, v2, r3, s3]
      exact ho
    show ∃ I' τ', CC (d + 40) 181 [.ref c, .int (iN (w_id (ug (s_U (g_S C)) k)))] (I, τ) = some (oO (.inl (iN (txW (g_S C) k).length)), (I', τ')) ∧ PC I τ c Z B I' τ' (cO C (txW (g_S C) k))
    unfold txW
    by_cases z : w_ca (ug (s_U (g_S C)) k) = 0
    · rw [z, caC_0] at r63
      have z2 : txC (w_ca (ug (s_U (g_S C)) k)) = [] := if_pos z
      rw [z2, List.append_nil]
      obtain ⟨K, ρ', t1, t2⟩ := w_tail (d := d) h0 hK hk W3 (by omega) (by simp only [List.length_append, List.length_nil, List.length_singleton]; omega) hall (iN (w_id (ug (s_U (g_S C)) k)))
      refine ⟨K, ρ', main _ ?_, t2⟩
      rw [b_181_23]
      simp (disch := omega) only [rd_I_mk, rd_R_mk, rd_L_mk, rd_D_mk, kd_mk, wr_I_mk, cp_mk, gd_true, bd_ret, bd_thr, vl_none, vl_some, iN_add, iN_mul, iN_sub, iN_lt, iN_eq, iN_n, iN_m1, iN_pred, vp_iN, K0_le, nr_b0, nr_b1, m1_lt, lt_m1, iN_ne_m1, m1_ne_iN, not_lt_z, true_and, and_true, and_self, or_true, true_or, or_false, false_or, if_true, if_false, ↓reduceIte, eq_self, up_at, up_a, up_k, cp_c, cp_b, Nat.zero_add, Nat.add_zero, Nat.sub_zero, Nat.le_refl, Nat.add_sub_cancel, fu_at, fu_ne, iN_nz, n10_f, n01_f, ofN, qq_at_100, k110b, Nat.lt_irrefl, Nat.not_lt_zero, ne_eq, not_false_eq_true, not_true_eq_false, hK3, hR3, kW, u6, v5, r63]
      exact t1
    · obtain ⟨j, hj⟩ : ∃ j, w_ca (ug (s_U (g_S C)) k) = j + 1 := ⟨w_ca (ug (s_U (g_S C)) k) - 1, by omega⟩
      have hjx : j < 1000000 := by
        rcases y7 with y7 | ⟨i, y9, y10⟩
        · omega
        · have := (g3.2.2.1.2.2.2 i (by omega)).1
          omega
      have l3 := dg_len6 hjx
      rw [hj, caC_s] at r63
      have z2 : txC (w_ca (ug (s_U (g_S C)) k)) = [60] ++ dg j := by rw [hj]; exact if_neg (by omega)
      rw [z2, ← List.append_assoc]
      obtain ⟨J4, ρ4, s4, W4⟩ := w_char (d := d) h0 hK W3 (x := 60) (by simp only [List.length_append, List.length_nil, List.length_singleton]; omega) (by omega)
      obtain ⟨J5, ρ5, s5, W5⟩ := w_int (d := d) h0 hK W4 (n := j) hjx (by simp only [List.length_append, List.length_nil, List.length_singleton]; omega)
      have r64 := r6 _ _ _ _ W4
      rw [hj, caC_s] at r64
      have hK4 : ∀ a, a < c + 221 → tK ρ4 a = tK τ a := fun a ha => (W4.2.2.1 a ha).2.1
      have hR4 : ∀ a j, a < c + 221 → tR ρ4 a j = tR τ a j := fun a j ha => (W4.2.2.1 a ha).2.2 j
      have hb4 : tK ρ4 (c + 236) = (2, 0) := W4.2.2.2
      obtain ⟨K, ρ', t1, t2⟩ := w_tail (d := d) h0 hK hk W5 (by omega) (by simp only [List.length_append, List.length_nil, List.length_singleton]; omega) (app_c (app_c hall (one_128 (by omega))) (dg_128 _)) (iN (w_id (ug (s_U (g_S C)) k)))
      refine ⟨K, ρ', main _ ?_, t2⟩
      rw [b_181_23]
      simp (disch := omega) only [rd_I_mk, rd_R_mk, rd_L_mk, rd_D_mk, kd_mk, wr_I_mk, cp_mk, gd_true, bd_ret, bd_thr, vl_none, vl_some, iN_add, iN_mul, iN_sub, iN_lt, iN_eq, iN_n, iN_m1, iN_pred, vp_iN, K0_le, nr_b0, nr_b1, m1_lt, lt_m1, iN_ne_m1, m1_ne_iN, not_lt_z, true_and, and_true, and_self, or_true, true_or, or_false, false_or, if_true, if_false, ↓reduceIte, eq_self, up_at, up_a, up_k, cp_c, cp_b, Nat.zero_add, Nat.add_zero, Nat.sub_zero, Nat.le_refl, Nat.add_sub_cancel, fu_at, fu_ne, iN_nz, n10_f, n01_f, ofN, qq_at_100, k110b, Nat.lt_irrefl, Nat.not_lt_zero, ne_eq, not_false_eq_true, not_true_eq_false, hK3, hR3, kW, u6, v5, r63, k12, e9, hb3, s4, b_181_34, hK4, hR4, r64, hb4, s5, b_181_39]
      exact t1
end RW
