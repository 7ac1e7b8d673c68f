/-! THE MODEL: what a command leaves behind it -/
section MEN
variable {d : Nat} {I : qq_I} {τ : qq_R} {m B : Nat} {S : sS}
theorem c_ends35 (hL : L_N τ m) {J : qq_I} {n : Nat} (hn : n < 8) (h6 : J m 6 = iN n) (v : Int32) (u : Option Value) :
    RR (d + 1) 212 35 [some (.ref m), some (.int v), u] [] (J, τ) = some (.inl (some (.int v)), (up_2 (cp_2 J (m + 2) 0 (m + 5) (106 * n) 106) m 6 (iN (n + 1)), τ)) := by
  obtain ⟨m70, k0, r0, r1, r2, r3, r4, r5, r6, r7, r8, g1, g2, g3, g4, g5, g6, -⟩ := hL
  have q := c_copies (d := d) (I := J) (sp := 0) (dp := 106 * n) g2 g5 (by omega) (by omega) (by omega) (by omega) (by omega) (Or.inl (by omega))
  have j6 : cp_2 J (m + 2) 0 (m + 5) (106 * n) 106 m 6 = iN n := by rw [cp_c (by omega)]; exact h6
  rw [b_212_35]
  simp (disch := omega) only [rd_I_mk, rd_R_mk, rd_L_mk, rd_D_mk, kd_mk, wr_I_mk, cp_mk, gd_true, bd_ret, bd_thr, vl_none, vl_some, iN_add, iN_mul, iN_sub, iN_lt, iN_eq, iN_n, iN_m1, iN_pred, vp_iN, K0_le, nr_b0, nr_b1, m1_lt, lt_m1, iN_ne_m1, m1_ne_iN, not_lt_z, true_and, and_true, and_self, or_true, true_or, or_false, false_or, if_true, if_false, ↓reduceIte, eq_self, up_at, up_a, up_k, cp_c, cp_b, Nat.zero_add, Nat.add_zero, Nat.sub_zero, Nat.le_refl, Nat.add_sub_cancel, fu_at, fu_ne, iN_nz, n10_f, n01_f, ofN, qq_at_100, k110b, Nat.lt_irrefl, Nat.not_lt_zero, ne_eq, not_false_eq_true, not_true_eq_false, k0, r1, r4, h6, iN_mul, q, b_212_45, j6, b_212_51]
theorem c_ends11 (hL : L_N τ m) {J : qq_I} (h6 : J m 6 = iN 8) (v : Int32) : ∀ q x (K : qq_I), x + q = 8 → 1 ≤ x → (∀ j, K (m + 5) j = if j < 106 * (x - 1) then J (m + 5) (j + 106) else J (m + 5) j) → (∀ a, a ≠ m + 5 → K a = J a) →
    ∃ K', RR (d + 1) 212 11 [some (.ref m), some (.int v), some (.int (iN x))] [] (K, τ) = RR (d + 1) 212 35 [some (.ref m), some (.int v), some (.int (iN 8))] [] (up_2 K' m 6 (iN 7), τ) ∧ (∀ j, K' (m + 5) j = if j < 742 then J (m + 5) (j + 106) else J (m + 5) j) ∧ (∀ a, a ≠ m + 5 → K' a = J a) := by
  obtain ⟨m70, k0, r0, r1, r2, r3, r4, r5, r6, r7, r8, g1, g2, g3, g4, g5, g6, -⟩ := hL
  intro q
  induction q with
  | zero =>
    intro x K hx h1 hK hI
    have hx : x = 8 := hx
    subst hx
    refine ⟨K, ?_, hK, hI⟩
    have k6 : K m 6 = iN 8 := by rw [hI m (by omega)]; exact h6
    rw [b_212_11]
    simp (disch := omega) only [rd_I_mk, rd_R_mk, rd_L_mk, rd_D_mk, kd_mk, wr_I_mk, cp_mk, gd_true, bd_ret, bd_thr, vl_none, vl_some, iN_add, iN_mul, iN_sub, iN_lt, iN_eq, iN_n, iN_m1, iN_pred, vp_iN, K0_le, nr_b0, nr_b1, m1_lt, lt_m1, iN_ne_m1, m1_ne_iN, not_lt_z, true_and, and_true, and_self, or_true, true_or, or_false, false_or, if_true, if_false, ↓reduceIte, eq_self, up_at, up_a, up_k, cp_c, cp_b, Nat.zero_add, Nat.add_zero, Nat.sub_zero, Nat.le_refl, Nat.add_sub_cancel, fu_at, fu_ne, iN_nz, n10_f, n01_f, ofN, qq_at_100, k110b, Nat.lt_irrefl, Nat.not_lt_zero, ne_eq, not_false_eq_true, not_true_eq_false, k0, k6]
  | succ q ih =>
    intro x K hx h1 hK hI
    have q1 := c_copies (d := d) (I := K) (sp := 106 * x) (dp := 106 * (x - 1)) g5 g5 (by omega) (by omega) (by omega) (by omega) (by omega) (Or.inr (Or.inl (by omega)))
    obtain ⟨K', t1, t2⟩ := ih (x + 1) (cp_2 K (m + 5) (106 * x) (m + 5) (106 * (x - 1)) 106) (by omega) (by omega) (fun j => by
      by_cases y : 106 * (x - 1) ≤ j ∧ j < 106 * (x - 1) + 106
      · rw [cp_b y, hK, if_neg (by omega), if_pos (by omega)]
        congr 1
        omega
      · rw [cp_o y, hK]
        by_cases z : j < 106 * (x - 1)
        · rw [if_pos z, if_pos (by omega)]
        · rw [if_neg z, if_neg (by omega)]) (fun a ha => by rw [cp_c ha]; exact hI a ha)
    refine ⟨K', ?_, t2⟩
    have e : x < 8 := by omega
    rw [b_212_11]
    simp (disch := omega) only [rd_I_mk, rd_R_mk, rd_L_mk, rd_D_mk, kd_mk, wr_I_mk, cp_mk, gd_true, bd_ret, bd_thr, vl_none, vl_some, iN_add, iN_mul, iN_sub, iN_lt, iN_eq, iN_n, iN_m1, iN_pred, vp_iN, K0_le, nr_b0, nr_b1, m1_lt, lt_m1, iN_ne_m1, m1_ne_iN, not_lt_z, true_and, and_true, and_self, or_true, true_or, or_false, false_or, if_true, if_false, ↓reduceIte, eq_self, up_at, up_a, up_k, cp_c, cp_b, Nat.zero_add, Nat.add_zero, Nat.sub_zero, Nat.le_refl, Nat.add_sub_cancel, fu_at, fu_ne, iN_nz, n10_f, n01_f, ofN, qq_at_100, k110b, Nat.lt_irrefl, Nat.not_lt_zero, ne_eq, not_false_eq_true, not_true_eq_false, e, k0, r4, iN_mul, q1, b_212_27]
    exact t1
theorem c_ends (hL : L_N τ m) {J : qq_I} {H : List sS} (h7 : J m 7 = iN 0) (h6 : J m 6 = iN H.length) (hH : H.length ≤ 8) (hl : ∀ i (h : i < H.length), R_F (fun k => J (m + 5) (106 * i + k)) H[i] ∧ wS B H[i]) (hS : R_F (J (m + 2)) S) (hw : wS B S) (v : Int32) :
    ∃ I', CC (d + 1) 212 [.ref m, .int v] (J, τ) = some (.inl (some (.int v)), (I', τ)) ∧ I' m 6 = iN (hiA H S).length ∧ (hiA H S).length ≤ 8 ∧ (∀ i (h : i < (hiA H S).length), R_F (fun k => I' (m + 5) (106 * i + k)) (hiA H S)[i] ∧ wS B (hiA H S)[i]) ∧ (∀ a, a ≠ m → a ≠ m + 5 → I' a = J a) ∧ (∀ k, k ≠ 6 → I' m k = J m k) := by
  have hL0 := hL
  obtain ⟨m70, k0, r0, r1, r2, r3, r4, r5, r6, r7, r8, g1, g2, g3, g4, g5, g6, -⟩ := hL
  unfold hiA
  by_cases y : H.length < 8
  · rw [if_pos y]
    refine ⟨up_2 (cp_2 J (m + 2) 0 (m + 5) (106 * H.length) 106) m 6 (iN (H.length + 1)), ?_, ?_, by rw [List.length_append]; exact y, fun i hi => ?_, fun a h1 h2 => by rw [up_c h1, cp_c h2], fun k hk => by rw [up_k hk, cp_c (by omega)]⟩
    · have y2 : ¬ H.length = 8 := by omega
      have t := c_ends35 (d := d) hL0 y h6 v none
      rw [c_212, b_212_0]
      simp (disch := omega) only [rd_I_mk, rd_R_mk, rd_L_mk, rd_D_mk, kd_mk, wr_I_mk, cp_mk, gd_true, bd_ret, bd_thr, vl_none, vl_some, iN_add, iN_mul, iN_sub, iN_lt, iN_eq, iN_n, iN_m1, iN_pred, vp_iN, K0_le, nr_b0, nr_b1, m1_lt, lt_m1, iN_ne_m1, m1_ne_iN, not_lt_z, true_and, and_true, and_self, or_true, true_or, or_false, false_or, if_true, if_false, ↓reduceIte, eq_self, up_at, up_a, up_k, cp_c, cp_b, Nat.zero_add, Nat.add_zero, Nat.sub_zero, Nat.le_refl, Nat.add_sub_cancel, fu_at, fu_ne, iN_nz, n10_f, n01_f, ofN, qq_at_100, k110b, Nat.lt_irrefl, Nat.not_lt_zero, ne_eq, not_false_eq_true, not_true_eq_false, k0, h7, h6, y2]
      exact t
    · rw [up_at, List.length_append]; rfl
    · rw [List.length_append] at hi
      have hi : i < H.length + 1 := hi
      by_cases z : i < H.length
      · rw [List.getElem_append_left z]
        refine ⟨R_F_same (hl i z).1 (hl i z).2 (fun k hk => ?_), (hl i z).2⟩
        rw [up_c (by omega), cp_o (by omega)]
      · have z : i = H.length := by omega
        subst z
        rw [List.getElem_append_right (Nat.le_refl _)]
        have e : [S][H.length - H.length]'(by simp) = S := by simp
        rw [e]
        refine ⟨R_F_same hS hw (fun k hk => ?_), hw⟩
        rw [up_c (by omega), cp_b (by omega)]
        congr 1
        omega
  · have y8 : H.length = 8 := by omega
    rw [if_neg y]
    rw [y8] at h6
    obtain ⟨K', t1, t2, t3⟩ := c_ends11 (d := d) hL0 h6 v 7 1 J rfl (Nat.le_refl _) (fun j => by rw [if_neg (by omega)]) (fun _ _ => rfl)
    have t := c_ends35 (d := d) hL0 (J := up_2 K' m 6 (iN 7)) (n := 7) (by omega) up_at v (some (.int (iN 8)))
    have hlen : (H.drop 1 ++ [S]).length = 8 := by rw [List.length_append, List.length_drop, y8]; rfl
    refine ⟨up_2 (cp_2 (up_2 K' m 6 (iN 7)) (m + 2) 0 (m + 5) (106 * 7) 106) m 6 (iN (7 + 1)), ?_, ?_, by omega, fun i hi => ?_, fun a h1 h2 => by rw [up_c h1, cp_c h2, up_c h1, t3 a h2], fun k hk => by rw [up_k hk, cp_c (by omega), up_k hk, t3 m (by omega)]⟩
    · rw [c_212, b_212_0]
      simp (disch := omega) only [rd_I_mk, rd_R_mk, rd_L_mk, rd_D_mk, kd_mk, wr_I_mk, cp_mk, gd_true, bd_ret, bd_thr, vl_none, vl_some, iN_add, iN_mul, iN_sub, iN_lt, iN_eq, iN_n, iN_m1, iN_pred, vp_iN, K0_le, nr_b0, nr_b1, m1_lt, lt_m1, iN_ne_m1, m1_ne_iN, not_lt_z, true_and, and_true, and_self, or_true, true_or, or_false, false_or, if_true, if_false, ↓reduceIte, eq_self, up_at, up_a, up_k, cp_c, cp_b, Nat.zero_add, Nat.add_zero, Nat.sub_zero, Nat.le_refl, Nat.add_sub_cancel, fu_at, fu_ne, iN_nz, n10_f, n01_f, ofN, qq_at_100, k110b, Nat.lt_irrefl, Nat.not_lt_zero, ne_eq, not_false_eq_true, not_true_eq_false, k0, h7, h6]
      rw [t1]
      exact t
    · rw [up_at, hlen]
    · rw [hlen] at hi
      by_cases z : i < 7
      · have hd : i < (H.drop 1).length := by rw [List.length_drop]; omega
        rw [List.getElem_append_left hd, List.getElem_drop]
        have hz : 1 + i < H.length := by omega
        refine ⟨R_F_same (hl (1 + i) hz).1 (hl (1 + i) hz).2 (fun k hk => ?_), (hl (1 + i) hz).2⟩
        rw [up_c (by omega), cp_o (by omega), up_c (by omega), t2, if_pos (by omega)]
        congr 1
        omega
      · have z : i = 7 := by omega
        subst z
        have hd : (H.drop 1).length ≤ 7 := by rw [List.length_drop]; omega
        have e : (H.drop 1 ++ [S])[7]'(by rw [hlen]; omega) = S := by
          rw [List.getElem_append_right hd]
          simp
        rw [e]
        refine ⟨R_F_same hS hw (fun k hk => ?_), hw⟩
        rw [up_c (by omega), cp_b (by omega), up_c (by omega), t3 _ (by omega), show 0 + (106 * 7 + k - 106 * 7) = k by omega]
theorem c_endsT (hL : L_N τ m) {J : qq_I} {n : Nat} (hn : n ≠ 0) (hn2 : n < 1000) (h7 : J m 7 = iN n) (v : Int32) : CC (d + 1) 212 [.ref m, .int v] (J, τ) = some (.inl (some (.int (iN 0))), (J, τ)) := by
  obtain ⟨m70, k0, -⟩ := hL
  rw [c_212, b_212_0]
  simp (disch := omega) only [rd_I_mk, rd_R_mk, rd_L_mk, rd_D_mk, kd_mk, wr_I_mk, cp_mk, gd_true, bd_ret, bd_thr, vl_none, vl_some, iN_add, iN_mul, iN_sub, iN_lt, iN_eq, iN_n, iN_m1, iN_pred, vp_iN, K0_le, nr_b0, nr_b1, m1_lt, lt_m1, iN_ne_m1, m1_ne_iN, not_lt_z, true_and, and_true, and_self, or_true, true_or, or_false, false_or, if_true, if_false, ↓reduceIte, eq_self, up_at, up_a, up_k, cp_c, cp_b, Nat.zero_add, Nat.add_zero, Nat.sub_zero, Nat.le_refl, Nat.add_sub_cancel, fu_at, fu_ne, iN_nz, n10_f, n01_f, ofN, qq_at_100, k110b, Nat.lt_irrefl, Nat.not_lt_zero, ne_eq, not_false_eq_true, not_true_eq_false, k0, h7, hn]
theorem R_Y_fin {I' : qq_I} {B' : Nat} {C : sC} {S' : sS} {H' : List sS} (h : R_Y I m B C) (hB : B ≤ B') (hB' : B' ≤ 900000) (hm : ∀ k, k ≠ 6 → k ≠ 7 → I' m k = I m k) (h4 : I' (m + 4) = I (m + 4)) (h7 : I' (m + 7) = I (m + 7)) (h8 : I' (m + 8) = I (m + 8))
    (hw : wS B' S') (p1 : I' m 6 = iN H'.length) (p2 : H'.length ≤ 8) (p3 : ∀ i (h : i < H'.length), R_F (fun k => I' (m + 5) (106 * i + k)) H'[i] ∧ wS B' H'[i]) : R_Y I' m B' (S', H', C.2.2) := by
  obtain ⟨a1, a2, a3, a4, a5, a6, a7, a8, a9, a10, a11, a12, a13, a14, a15, a16, a17, a18, a19, a20⟩ := h
  exact ⟨hw, p1, p2, p3, by rw [hm 12 (by omega) (by omega)]; exact a5, fun T hT => by rw [h4]; exact ⟨(a6 T hT).1, wS_up (a6 T hT).2 hB hB'⟩, by rw [hm 8 (by omega) (by omega)]; exact a7, by rw [hm 9 (by omega) (by omega)]; exact a8, fun z => by rw [hm 10 (by omega) (by omega)]; exact a9 z, a10, a11, a12, by rw [hm 14 (by omega) (by omega)]; exact a13, a14, by rw [h7]; exact a15, a16, by rw [hm 17 (by omega) (by omega)]; exact a17, a18, by rw [h8]; exact a19, a20⟩
/-- behind a public call of the model -/
def PN (m : Nat) (I I' : qq_I) (τ : qq_R) (B : Nat) (n : Nat) (C' : sC) : Prop := R_N I' τ m B C' ∧ I' m 7 = iN n ∧ Fr m 10 I I'
/-- what was, before a command -/
def kpI (I : qq_I) (m : Nat) : qq_I := up_2 (cp_2 I (m + 1) 0 (m + 2) 0 106) m 7 (iN 0)
theorem kp_R {C : sC} (h : R_N I τ m B C) : R_F (kpI I m (m + 1)) (g_S C) ∧ R_F (kpI I m (m + 2)) (g_S C) ∧ CC (d + 1) 211 [.ref m] (I, τ) = some (.inl none, (kpI I m, τ)) := by
  obtain ⟨hL, hR, hY⟩ := h
  refine ⟨by unfold kpI; rw [up_c (by omega), cp_c (by omega)]; exact hR, R_F_same hR hY.1 (fun k hk => ?_), ?_⟩
  · unfold kpI
    rw [up_c (by omega), cp_b (by omega)]
    congr 1
    omega
  · exact c_keeps hL
theorem m_fin {C : sC} {l : List Nat} {g : Nat} {S' : sS} {v : Int32} {J : qq_I} (h : R_N I τ m B C) (hB : B + 660 ≤ 900000) (hl : l.length < 100) (hM : MC m (kpI I m) J l g (g_S C) S') (hw' : wS (B + 660) (g_S (mS g C S'))) :
    ∃ I', CC (d + 1) 212 [.ref m, .int (mV g v)] (J, τ) = some (.inl (some (.int (mV g v))), (I', τ)) ∧ PN m I I' τ (B + 660) (tc l g) (mS g C S') := by
  have hk := (kp_R (d := d) h).2.1
  obtain ⟨hL, hR, hY⟩ := h
  obtain ⟨t1, t2, t3, t4⟩ := hM
  have hY0 := hY
  obtain ⟨a1, a2, a3, a4, -⟩ := hY0
  have j2 : J (m + 2) = kpI I m (m + 2) := t3 _ (by omega) (by omega) (by omega)
  have j5 : J (m + 5) = I (m + 5) := by rw [t3 _ (by omega) (by omega) (by omega)]; unfold kpI; rw [up_c (by omega), cp_c (by omega)]
  have jm : ∀ k, k ≠ 7 → J m k = I m k := fun k hk => by rw [t4 k hk]; unfold kpI; rw [up_k hk, cp_c (by omega)]
  have jo : ∀ a, a ≠ m → a ≠ m + 1 → a ≠ m + 2 → a ≠ m + 6 → J a = I a := fun a z1 z2 z3 z4 => by rw [t3 a z1 z2 z4]; unfold kpI; rw [up_c z1, cp_c z3]
  by_cases z : g = 45
  · subst z
    have e0 : tc l 45 = 0 := rfl
    rw [e0] at t2
    obtain ⟨I', s1, s2, s3, s4, s5, s6⟩ := c_ends (d := d) hL (J := J) (H := g_H C) t2 (by rw [jm 6 (by omega)]; exact a2) a3 (fun i hi => by rw [j5]; exact a4 i hi) (by rw [j2]; exact hk) a1 (mV 45 v)
    refine ⟨I', s1, ⟨hL, ?_, ?_⟩, ?_, ?_⟩
    · rw [s5 _ (by omega) (by omega)]
      rw [if_pos rfl] at t1
      exact t1
    · exact R_Y_fin (C := C) hY (Nat.le_add_right _ _) hB (fun k k1 k2 => by rw [s6 k k1, jm k k2]) (by rw [s5 _ (by omega) (by omega), jo _ (by omega) (by omega) (by omega) (by omega)]) (by rw [s5 _ (by omega) (by omega), jo _ (by omega) (by omega) (by omega) (by omega)]) (by rw [s5 _ (by omega) (by omega), jo _ (by omega) (by omega) (by omega) (by omega)]) hw' s2 s3 (fun i hi => ⟨(s4 i hi).1, wS_up (s4 i hi).2 (Nat.le_add_right _ _) hB⟩)
    · rw [s6 7 (by omega)]; exact t2
    · exact fun a ha => by rw [s5 a (by omega) (by omega), jo a (by omega) (by omega) (by omega) (by omega)]
  · have e0 : tc l g = l.idxOf g + 1 := if_neg z
    have e1 := List.idxOf_le_length (a := g) (l := l)
    have s1 := c_endsT (d := d) hL (J := J) (n := tc l g) (by omega) (by omega) t2 (mV g v)
    have e2 : mV g v = iN 0 := if_neg z
    have e3 : mS g C S' = C := if_neg z
    rw [e3]
    rw [← e2] at s1
    rw [if_neg z] at t1
    refine ⟨J, s1, ⟨hL, t1, ?_⟩, t2, fun a ha => jo a (by omega) (by omega) (by omega) (by omega)⟩
    exact R_Y_fin (C := C) (S' := g_S C) (H' := g_H C) hY (Nat.le_add_right _ _) hB (fun k k1 k2 => jm k k2) (jo _ (by omega) (by omega) (by omega) (by omega)) (jo _ (by omega) (by omega) (by omega) (by omega)) (jo _ (by omega) (by omega) (by omega) (by omega)) (wS_up a1 (Nat.le_add_right _ _) hB) (by rw [jm 6 (by omega)]; exact a2) a3 (fun i hi => by rw [j5]; exact ⟨(a4 i hi).1, wS_up (a4 i hi).2 (Nat.le_add_right _ _) hB⟩)
end MEN
