/-! THE MODEL: running the script -/
section MRU
variable {d : Nat} {I : qq_I} {τ : qq_R} {m B : Nat} {C : sC}
theorem R_Y_mk {I' : qq_I} {B' : Nat} {S' : sS} {H' : List sS} {E' F' G' : Nat} (h : R_Y I m B C) (hB : B ≤ B') (hB' : B' ≤ 900000) (h12 : I' m 12 = I m 12) (h14 : I' m 14 = I m 14) (h4 : I' (m + 4) = I (m + 4)) (h7 : I' (m + 7) = I (m + 7)) (hw : wS B' S')
    (p1 : I' m 6 = iN H'.length) (p2 : H'.length ≤ 8) (p3 : ∀ i (h : i < H'.length), R_F (fun k => I' (m + 5) (106 * i + k)) H'[i] ∧ wS B' H'[i]) (h17 : I' m 17 = iN 0) (e8 : I' m 8 = caC E') (e9 : I' m 9 = caC F') (e10 : F' ≠ 0 → I' m 10 = iN G') (b1 : G' < 128) (b2 : E' ≤ 1000) (b3 : F' ≤ 1000) : R_Y I' m B' (S', H', g_Z C, [], g_O C, E', F', G') := by
  obtain ⟨a1, a2, a3, a4, a5, a6, a7, a8, a9, a10, a11, a12, a13, a14, a15, a16, a17, a18, a19, a20⟩ := h
  exact ⟨hw, p1, p2, p3, by rw [h12]; exact a5, fun T hT => by rw [h4]; exact ⟨(a6 T hT).1, wS_up (a6 T hT).2 hB hB'⟩, e8, e9, e10, b1, b2, b3, by rw [h14]; exact a13, a14, by rw [h7]; exact a15, a16, h17, Nat.zero_le _, fun i hi => absurd hi (Nat.not_lt_zero _), fun x hx => absurd hx List.not_mem_nil⟩
/-- how the state may differ while commands are carried out -/
def DI (m : Nat) (J K : qq_I) : Prop := (∀ a, a ≠ m → a ≠ m + 1 → a ≠ m + 6 → K a = J a) ∧ (∀ k, k ≠ 7 → k ≠ 11 → K m k = J m k)
/-- behind a command that failed -/
def FI (m : Nat) (J K : qq_I) (S0 : sS) (j g : Nat) : Prop := R_F (K (m + 1)) S0 ∧ K m 7 = iN 2 ∧ K m 9 = iN j ∧ K m 10 = iN g ∧ (∀ a, a ≠ m → a ≠ m + 1 → a ≠ m + 6 → K a = J a) ∧ (∀ k, k ≠ 7 → k ≠ 11 → k ≠ 9 → k ≠ 10 → K m k = J m k)
theorem c_runM (hL : L_N τ m) (hK : ∀ p ∈ ktab, St I τ p.1 p.2) (hB : B + 1400 ≤ 900000) {cs : List (Nat × List Nat)} {S0 : sS} {J : qq_I} (hJ : ∀ a, a < 70 → J a = I a) (hrw : RW (J (m + 9)) cs) (h11 : cs.length ≤ 11) (h19 : J m 19 = iN cs.length) (hS0 : R_F (J (m + 2)) S0) (hw0 : wS B S0) (x1 : Int32) :
    ∀ (f : List (Nat × List Nat)) i (S : sS) (K : qq_I), i ≤ cs.length → cs.drop i = f → R_F (K (m + 1)) S → wS (B + 60 * i) S → DI m J K → K m 7 = iN 0 →
      ∃ K', ((∃ S', ruS f i S = .inl S' ∧ RR (d + 7) 324 25 [some (.ref m), some (.int x1), some (.int (iN i))] [] (K, τ) = RR (d + 7) 324 25 [some (.ref m), some (.int x1), some (.int (iN cs.length))] [] (K', τ) ∧ R_F (K' (m + 1)) S' ∧ wS (B + 660) S' ∧ DI m J K' ∧ K' m 7 = iN 0) ∨
        (∃ j g, ruS f i S = .inr (j, g) ∧ RR (d + 7) 324 25 [some (.ref m), some (.int x1), some (.int (iN i))] [] (K, τ) = some (.inl (some (.int (iN 0))), (K', τ)) ∧ FI m J K' S0 j g ∧ j < 11 ∧ g < 128)) := by
  obtain ⟨m70, k0, r0, r1, r2, r3, r4, r5, r6, r7, r8, g1, g2, g3, g4, g5, g6, g7, g8, g9⟩ := id hL
  intro f
  induction f with
  | nil =>
    intro i S K hi hd hS hw hD h7
    have hi2 : i = cs.length := by
      have := congrArg List.length hd
      rw [List.length_drop] at this
      have : cs.length - i = 0 := this
      omega
    refine ⟨K, Or.inl ⟨S, rfl, by rw [hi2], hS, wS_up hw (by omega) (by omega), hD, h7⟩⟩
  | cons p f ih =>
    intro i S K hi hd hS hw hD h7
    have hlt : i < cs.length := by
      have := congrArg List.length hd
      rw [List.length_drop, List.length_cons] at this
      omega
    have hdc : cs.drop i = cs[i] :: cs.drop (i + 1) := List.drop_eq_getElem_cons hlt
    rw [hdc] at hd
    have hp : cs[i] = p := (List.cons.inj hd).1
    have hd2 : cs.drop (i + 1) = f := (List.cons.inj hd).2
    obtain ⟨k, a⟩ := p
    have e9 : up_2 K m 7 (iN 0) (m + 9) = J (m + 9) := by rw [up_c (by omega)]; exact hD.1 _ (by omega) (by omega) (by omega)
    have hrow : rowR (up_2 K m 7 (iN 0) (m + 9)) (5 * i) k a := by
      rw [e9]
      have := hrw i hlt
      rw [hp] at this
      exact this
    have h19K : K m 19 = iN cs.length := by rw [hD.2 19 (by omega) (by omega)]; exact h19
    have hS7 : R_F (up_2 K m 7 (iN 0) (m + 1)) S := R_F_7 hS
    obtain ⟨l, s, v, K2, t1, ⟨t2, t3, t4⟩, t5, t6, t7⟩ := c_does (d := d) (J := up_2 K m 7 (iN 0)) (B := B + 60 * i) hL hS7 hw (by omega) (b := 5 * i) (by omega) hrow
    have isf : isF (fo k S (aN a 0) (aN a 1) (aN a 2) (aN a 3)) := isF_fo
    have hD2 : DI m J (up_2 K2 m 11 v) := ⟨fun c c1 c2 c3 => by rw [up_c c1, t4.1 c c1 c2 c3, up_c c1]; exact hD.1 c c1 c2 c3, fun j j1 j2 => by rw [up_k j2, t4.2 j j1, up_k j1]; exact hD.2 j j1 j2⟩
    have hlc : (iN i < iN cs.length) = True := (iN_lt (by omega) (by omega)).trans (eq_true hlt)
    rw [ruS]
    by_cases hg : fo k S (aN a 0) (aN a 1) (aN a 2) (aN a 3) = 45
    · rw [if_pos hg]
      rw [if_pos hg] at t2
      have h72 : up_2 K2 m 11 v m 7 = iN 0 := by
        rw [up_k (by omega), t3, hg]; rfl
      have hwo : wS (B + 60 * (i + 1)) (oo k S (aN a 0) (aN a 1) (aN a 2) (aN a 3)) := by
        have e : B + 60 * (i + 1) = B + 60 * i + 60 := by omega
        rw [e]
        exact w_oo hL hS7 hw (by omega) hrow hg
      obtain ⟨K', ih'⟩ := ih (i + 1) (oo k S (aN a 0) (aN a 1) (aN a 2) (aN a 3)) (up_2 K2 m 11 v) hlt hd2 (by rw [up_c (by omega)]; exact t2) hwo hD2 h72
      have st : RR (d + 7) 324 25 [some (.ref m), some (.int x1), some (.int (iN i))] [] (K, τ) = RR (d + 7) 324 25 [some (.ref m), some (.int x1), some (.int (iN (i + 1)))] [] (up_2 K2 m 11 v, τ) := by
        rw [b_324_25]
        simp (disch := omega) only [kd_mk, k0, gd_true, rd_I_mk, h19K, hlc, if_true, wr_I_mk, K0_le, and_self, true_and, and_true, b_324_32, iN_mul, t1, bd_ret, vl_some, b_324_38, b_324_39, h72, iN_add]
      refine ⟨K', ?_⟩
      rw [st]
      exact ih'
    · rw [if_neg hg]
      rw [if_neg hg] at t2
      have hmem := t7 hg
      have hix : l.idxOf (fo k S (aN a 0) (aN a 1) (aN a 2) (aN a 3)) < l.length := List.idxOf_lt_length_iff.mpr hmem
      have htc : tc l (fo k S (aN a 0) (aN a 1) (aN a 2) (aN a 3)) = l.idxOf (fo k S (aN a 0) (aN a 1) (aN a 2) (aN a 3)) + 1 := if_neg hg
      have hst0 := hK (s, l) t5
      have hl60 : l.length ≤ 60 := hst0.2.2.2.2.2.2.1
      have hgx : l[l.idxOf (fo k S (aN a 0) (aN a 1) (aN a 2) (aN a 3))] = fo k S (aN a 0) (aN a 1) (aN a 2) (aN a 3) := List.getElem_idxOf hix
      generalize hgg : fo k S (aN a 0) (aN a 1) (aN a 2) (aN a 3) = g at *
      generalize hjx : l.idxOf g = jx at *
      have hg128 : g < 128 := by rcases isf with q | q | q | q | q | q <;> omega
      have h72 : up_2 K2 m 11 v m 7 = iN (jx + 1) := by rw [up_k (by omega), t3, htc]
      have h7n : (iN (jx + 1) = iN 0) = False := (iN_eq (by omega) (by omega)).trans (eq_false (by omega))
      have qc1 := c_copies (d := d + 6) (I := up_2 K2 m 11 v) (sp := 0) (dp := 0) g2 g1 (by omega) (by omega) (by omega) (by omega) (by omega) (Or.inl (by omega))
      have e59 : up_2 (cp_2 (up_2 K2 m 11 v) (m + 2) 0 (m + 1) 0 106) m 9 (iN i) (m + 9) (5 * i) = up_2 K m 7 (iN 0) (m + 9) (5 * i) := by
        rw [up_c (by omega), cp_c (by omega), up_c (by omega), t4.1 _ (by omega) (by omega) (by omega)]
      have e7 : up_2 (cp_2 (up_2 K2 m 11 v) (m + 2) 0 (m + 1) 0 106) m 9 (iN i) m 7 = iN (jx + 1) := by rw [up_k (by omega), cp_c (by omega)]; exact h72
      have hstK : St (up_2 (cp_2 (up_2 K2 m 11 v) (m + 2) 0 (m + 1) 0 106) m 9 (iN i)) τ s l := St_same hst0 (fun c hc => ⟨by rw [up_c (by omega), cp_c (by omega)]; rw [hD2.1 c (by omega) (by omega) (by omega)]; exact hJ c hc, rfl, fun _ => rfl⟩)
      have qat := c_strAt (d := d + 3) hstK hix
      rw [hgx] at qat
      have hks : tK τ s = (0, 0) := hst0.2.2.1
      have hsub : iN (jx + 1) - iN 1 = iN jx := iN_sub (by omega)
      refine ⟨up_2 (up_2 (up_2 (cp_2 (up_2 K2 m 11 v) (m + 2) 0 (m + 1) 0 106) m 9 (iN i)) m 10 (iN g)) m 7 (iN 2), Or.inr ⟨i, g, rfl, ?_, ⟨?_, ?_, ?_, ?_, ?_, ?_⟩, by omega, hg128⟩⟩
      · rw [b_324_25]
        simp (disch := omega) only [kd_mk, k0, gd_true, rd_I_mk, rd_R_mk, h19K, hlc, if_true, wr_I_mk, K0_le, and_self, true_and, and_true, b_324_32, iN_mul, t1, bd_ret, vl_some, vl_none, b_324_38, b_324_39, h72, h7n, if_false, r0, r1, qc1, b_324_49, b_324_52, r8, g9, vp_iN, iN_n, e59, t6, b_324_60, hks, e7, hsub, qat, b_324_65, b_324_66, b_324_69]
      · rw [up_c (by omega), up_c (by omega), up_c (by omega)]
        refine R_F_same hS0 hw0 (fun c hc => ?_)
        rw [cp_b (by omega), up_c (by omega), t4.1 _ (by omega) (by omega) (by omega), up_c (by omega), hD.1 _ (by omega) (by omega) (by omega)]
        congr 1
        omega
      · exact up_at
      · rw [up_k (by omega), up_k (by omega), up_at]
      · rw [up_k (by omega), up_at]
      · intro c c1 c2 c3
        rw [up_c c1, up_c c1, up_c c1, cp_c c2]
        exact hD2.1 c c1 c2 c3
      · intro c c1 c2 c3 c4
        rw [up_k c1, up_k c4, up_k c3, cp_c (by omega)]
        exact hD2.2 c c1 c2
theorem n_runScript (h : R_N I τ m B C) (hK : ∀ p ∈ ktab, St I τ p.1 p.2) (hB : B + 1400 ≤ 900000) : NQ d 324 [.ref m] I τ m (B + 660) (qv (q_run C)) (qc [1, 2] (q_run C)) (t_run C) := by
  obtain ⟨m70, k0, r0, r1, r2, r3, r4, r5, r6, r7, r8, g1, g2, g3, g4, g5, g6, g7, g8, g9⟩ := id h.1
  obtain ⟨hL, hR, hY⟩ := h
  have hY0 := hY
  obtain ⟨a1, a2, a3, a4, a5, a6, a7, a8, a9, a10, a11, a12, a13, a14, a15, a16, a17, a18, a19, a20⟩ := hY
  have hT : TP I m (g_T C) := ⟨a17, a18, a19, a20⟩
  obtain ⟨J, t1, ⟨p0, p1, p2, p3⟩, t3⟩ := c_parse (d := d + 31) hL hT hK
  unfold q_run t_run
  cases hok : (rdS (g_T C) 11 0 []).1 with
  | false =>
    rw [hok, b01_f] at t1
    simp only [Bool.false_eq_true, if_false]
    have e18 : up_2 (up_2 J m 17 (iN 0)) m 7 (iN 1) m 18 = iN (rdS (g_T C) 11 0 []).2.1 := by rw [up_k (by omega), up_k (by omega)]; exact p1
    have hm : ∀ k, k ≠ 17 → k ≠ 7 → k ≠ 8 → k ≠ 18 → k ≠ 19 → up_2 (up_2 (up_2 J m 17 (iN 0)) m 7 (iN 1)) m 8 (iN (rdS (g_T C) 11 0 []).2.1) m k = I m k := fun k k1 k2 k3 k4 k5 => by rw [up_k k3, up_k k2, up_k k1]; exact p3 k k4 k5
    have ho : ∀ a, a ≠ m → a ≠ m + 9 → up_2 (up_2 (up_2 J m 17 (iN 0)) m 7 (iN 1)) m 8 (iN (rdS (g_T C) 11 0 []).2.1) a = I a := fun a h1 h2 => by rw [up_c h1, up_c h1, up_c h1]; exact p2 a h1 h2
    refine ⟨up_2 (up_2 (up_2 J m 17 (iN 0)) m 7 (iN 1)) m 8 (iN (rdS (g_T C) 11 0 []).2.1), ?_, ⟨hL, by rw [ho _ (by omega) (by omega)]; exact hR, R_Y_mk hY0 (Nat.le_add_right _ _) (by omega) (hm _ (by omega) (by omega) (by omega) (by omega) (by omega)) (hm _ (by omega) (by omega) (by omega) (by omega) (by omega)) (ho _ (by omega) (by omega)) (ho _ (by omega) (by omega)) (wS_up a1 (by omega) (by omega)) (by rw [hm _ (by omega) (by omega) (by omega) (by omega) (by omega)]; exact a2) a3 (fun i hi => by rw [ho _ (by omega) (by omega)]; exact ⟨(a4 i hi).1, wS_up (a4 i hi).2 (by omega) (by omega)⟩) ?_ ?_ ?_ (fun z => ?_) a10 (by omega) a12⟩, ?_, fun a ha => ho a (by omega) (by omega)⟩
    · rw [c_324, b_324_0]
      simp (disch := omega) only [rd_I_mk, rd_R_mk, rd_L_mk, rd_D_mk, kd_mk, wr_I_mk, cp_mk, gd_true, bd_ret, bd_thr, vl_none, vl_some, iN_add, iN_mul, iN_sub, iN_lt, iN_eq, iN_n, iN_m1, iN_pred, vp_iN, K0_le, nr_b0, nr_b1, m1_lt, lt_m1, iN_ne_m1, m1_ne_iN, not_lt_z, true_and, and_true, and_self, or_true, true_or, or_false, false_or, if_true, if_false, ↓reduceIte, eq_self, up_at, up_a, up_k, cp_c, cp_b, Nat.zero_add, Nat.add_zero, Nat.sub_zero, Nat.le_refl, Nat.add_sub_cancel, fu_at, fu_ne, iN_nz, n10_f, n01_f, ofN, qq_at_100, k110b, Nat.lt_irrefl, Nat.not_lt_zero, ne_eq, not_false_eq_true, not_true_eq_false, k0, t1, b_324_2, b_324_6, b_324_12, thT k0 m70, b_324_14, e18, b_324_19]
      rfl
    · rw [up_k (by omega), up_k (by omega), up_at]
    · rw [up_at, caC_s]
    · rw [hm _ (by omega) (by omega) (by omega) (by omega) (by omega)]; exact a8
    · rw [hm _ (by omega) (by omega) (by omega) (by omega) (by omega)]; exact a9 z
    · rw [up_k (by omega), up_at]; rfl
  | true =>
    obtain ⟨u1, u2, u3⟩ := t3 hok
    rw [hok, b01_t] at t1
    simp only [if_true]
    generalize hcs : (rdS (g_T C) 11 0 []).2.2 = cs at *
    have qk := c_keeps (d := d + 38) (I := up_2 (up_2 J m 17 (iN 0)) m 7 (iN 0)) hL
    have hJ0a : ∀ a, a ≠ m → a ≠ m + 9 → a ≠ m + 2 → up_2 (cp_2 (up_2 (up_2 J m 17 (iN 0)) m 7 (iN 0)) (m + 1) 0 (m + 2) 0 106) m 7 (iN 0) a = I a := fun a h1 h2 h3 => by rw [up_c h1, cp_c h3, up_c h1, up_c h1]; exact p2 a h1 h2
    have hJ09 : up_2 (cp_2 (up_2 (up_2 J m 17 (iN 0)) m 7 (iN 0)) (m + 1) 0 (m + 2) 0 106) m 7 (iN 0) (m + 9) = J (m + 9) := by rw [up_c (by omega), cp_c (by omega), up_c (by omega), up_c (by omega)]
    have hJ0m : ∀ k, k ≠ 7 → k ≠ 17 → up_2 (cp_2 (up_2 (up_2 J m 17 (iN 0)) m 7 (iN 0)) (m + 1) 0 (m + 2) 0 106) m 7 (iN 0) m k = J m k := fun k h1 h2 => by rw [up_k h1, cp_c (by omega), up_k h1, up_k h2]
    have hJ0S : R_F (up_2 (cp_2 (up_2 (up_2 J m 17 (iN 0)) m 7 (iN 0)) (m + 1) 0 (m + 2) 0 106) m 7 (iN 0) (m + 2)) (g_S C) := by
      refine R_F_same hR a1 (fun k hk => ?_)
      rw [up_c (by omega), cp_b (by omega), up_c (by omega), up_c (by omega), p2 _ (by omega) (by omega)]
      congr 1
      omega
    have hJ07 : up_2 (cp_2 (up_2 (up_2 J m 17 (iN 0)) m 7 (iN 0)) (m + 1) 0 (m + 2) 0 106) m 7 (iN 0) m 7 = iN 0 := up_at
    have hJ17 : up_2 (cp_2 (up_2 (up_2 J m 17 (iN 0)) m 7 (iN 0)) (m + 1) 0 (m + 2) 0 106) m 7 (iN 0) m 17 = iN 0 := by rw [up_k (by omega), cp_c (by omega), up_k (by omega), up_at]
    generalize hJ0 : up_2 (cp_2 (up_2 (up_2 J m 17 (iN 0)) m 7 (iN 0)) (m + 1) 0 (m + 2) 0 106) m 7 (iN 0) = J0 at *
    obtain ⟨K, ro⟩ := c_runM (d := d + 33) (J := J0) hL hK hB (cs := cs) (S0 := g_S C) (fun a ha => hJ0a a (by omega) (by omega) (by omega)) (by rw [hJ09]; exact u2) u3 (by rw [hJ0m _ (by omega) (by omega)]; exact u1) hJ0S a1 (iN 1) cs 0 (g_S C) J0 (Nat.zero_le _) rfl (by rw [hJ0a _ (by omega) (by omega) (by omega)]; exact hR) a1 ⟨fun _ _ _ _ => rfl, fun _ _ _ => rfl⟩ hJ07
    have main : ∀ σ2, RR (d + 40) 324 25 [some (.ref m), some (.int (iN 1)), some (.int (iN 0))] [] (J0, τ) = σ2 → CC (d + 40) 324 [.ref m] (I, τ) = σ2 := fun σ2 z => by
      rw [← z, c_324, b_324_0]
      simp (disch := omega) only [rd_I_mk, rd_R_mk, rd_L_mk, rd_D_mk, kd_mk, wr_I_mk, cp_mk, gd_true, bd_ret, bd_thr, vl_none, vl_some, iN_add, iN_mul, iN_sub, iN_lt, iN_eq, iN_n, iN_m1, iN_pred, vp_iN, K0_le, nr_b0, nr_b1, m1_lt, lt_m1, iN_ne_m1, m1_ne_iN, not_lt_z, true_and, and_true, and_self, or_true, true_or, or_false, false_or, if_true, if_false, ↓reduceIte, eq_self, up_at, up_a, up_k, cp_c, cp_b, Nat.zero_add, Nat.add_zero, Nat.sub_zero, Nat.le_refl, Nat.add_sub_cancel, fu_at, fu_ne, iN_nz, n10_f, n01_f, ofN, qq_at_100, k110b, Nat.lt_irrefl, Nat.not_lt_zero, ne_eq, not_false_eq_true, not_true_eq_false, k0, t1, b_324_2, b_324_6, b_324_12, thF k0 m70, b_324_14, qk, b_324_23]
    rcases ro with ⟨S', v1, v2, v3, v4, v5, v6⟩ | ⟨j, g, v1, v2, ⟨v3, v4, v5, v6, v7, v8⟩, v9, v10⟩
    · rw [v1]
      have kI : ∀ a, a ≠ m → a ≠ m + 1 → a ≠ m + 6 → a ≠ m + 9 → a ≠ m + 2 → K a = I a := fun a h1 h2 h3 h4 h5 => by rw [v5.1 a h1 h2 h3]; exact hJ0a a h1 h4 h5
      have kM : ∀ k, k ≠ 7 → k ≠ 11 → k ≠ 17 → k ≠ 18 → k ≠ 19 → K m k = I m k := fun k h1 h2 h3 h4 h5 => by rw [v5.2 k h1 h2, hJ0m k h1 h3]; exact p3 k h4 h5
      have k2 : K (m + 2) = J0 (m + 2) := v5.1 _ (by omega) (by omega) (by omega)
      obtain ⟨K', s1, s2, s3, s4, s5, s6⟩ := c_ends (d := d + 38) hL (J := K) (H := g_H C) (S := g_S C) (B := B) v6 (by rw [kM 6 (by omega) (by omega) (by omega) (by omega) (by omega)]; exact a2) a3 (fun i hi => by rw [kI _ (by omega) (by omega) (by omega) (by omega) (by omega)]; exact a4 i hi) (by rw [k2]; exact hJ0S) a1 (iN cs.length)
      refine ⟨K', main _ ?_, ⟨hL, by rw [s5 _ (by omega) (by omega)]; exact v3, R_Y_mk hY0 (Nat.le_add_right _ _) (by omega) (by rw [s6 _ (by omega)]; exact kM _ (by omega) (by omega) (by omega) (by omega) (by omega)) (by rw [s6 _ (by omega)]; exact kM _ (by omega) (by omega) (by omega) (by omega) (by omega)) (by rw [s5 _ (by omega) (by omega)]; exact kI _ (by omega) (by omega) (by omega) (by omega) (by omega)) (by rw [s5 _ (by omega) (by omega)]; exact kI _ (by omega) (by omega) (by omega) (by omega) (by omega)) v4 s2 s3 (fun i hi => ⟨(s4 i hi).1, wS_up (s4 i hi).2 (by omega) (by omega)⟩) ?_ ?_ ?_ (fun z => ?_) a10 a11 a12⟩, ?_, fun a ha => ?_⟩
      · have h19K : K m 19 = iN cs.length := by rw [v5.2 19 (by omega) (by omega), hJ0m 19 (by omega) (by omega)]; exact u1
        rw [v2, b_324_25]
        simp (disch := omega) only [rd_I_mk, rd_R_mk, rd_L_mk, rd_D_mk, kd_mk, wr_I_mk, cp_mk, gd_true, bd_ret, bd_thr, vl_none, vl_some, iN_add, iN_mul, iN_sub, iN_lt, iN_eq, iN_n, iN_m1, iN_pred, vp_iN, K0_le, nr_b0, nr_b1, m1_lt, lt_m1, iN_ne_m1, m1_ne_iN, not_lt_z, true_and, and_true, and_self, or_true, true_or, or_false, false_or, if_true, if_false, ↓reduceIte, eq_self, up_at, up_a, up_k, cp_c, cp_b, Nat.zero_add, Nat.add_zero, Nat.sub_zero, Nat.le_refl, Nat.add_sub_cancel, fu_at, fu_ne, iN_nz, n10_f, n01_f, ofN, qq_at_100, k110b, Nat.lt_irrefl, Nat.not_lt_zero, ne_eq, not_false_eq_true, not_true_eq_false, k0, h19K, Nat.lt_irrefl, s1, b_324_77]
        rfl
      · rw [s6 _ (by omega), v5.2 17 (by omega) (by omega)]; exact hJ17
      · rw [s6 _ (by omega), kM _ (by omega) (by omega) (by omega) (by omega) (by omega)]; exact a7
      · rw [s6 _ (by omega), kM _ (by omega) (by omega) (by omega) (by omega) (by omega)]; exact a8
      · rw [s6 _ (by omega), kM _ (by omega) (by omega) (by omega) (by omega) (by omega)]; exact a9 z
      · rw [s6 _ (by omega)]; exact v6
      · rw [s5 a (by omega) (by omega)]; exact kI a (by omega) (by omega) (by omega) (by omega) (by omega)
    · rw [v1]
      have kI : ∀ a, a ≠ m → a ≠ m + 1 → a ≠ m + 6 → a ≠ m + 9 → a ≠ m + 2 → K a = I a := fun a h1 h2 h3 h4 h5 => by rw [v7 a h1 h2 h3]; exact hJ0a a h1 h4 h5
      have kM : ∀ k, k ≠ 7 → k ≠ 11 → k ≠ 9 → k ≠ 10 → k ≠ 17 → k ≠ 18 → k ≠ 19 → K m k = I m k := fun k h1 h2 h3 h4 h5 h6 h7 => by rw [v8 k h1 h2 h3 h4, hJ0m k h1 h5]; exact p3 k h6 h7
      refine ⟨K, main _ v2, ⟨hL, v3, R_Y_mk (H' := g_H C) hY0 (Nat.le_add_right _ _) (by omega) (kM _ (by omega) (by omega) (by omega) (by omega) (by omega) (by omega) (by omega)) (kM _ (by omega) (by omega) (by omega) (by omega) (by omega) (by omega) (by omega)) (kI _ (by omega) (by omega) (by omega) (by omega) (by omega)) (kI _ (by omega) (by omega) (by omega) (by omega) (by omega)) (wS_up a1 (by omega) (by omega)) (by rw [kM _ (by omega) (by omega) (by omega) (by omega) (by omega) (by omega) (by omega)]; exact a2) a3 (fun i hi => by rw [kI _ (by omega) (by omega) (by omega) (by omega) (by omega)]; exact ⟨(a4 i hi).1, wS_up (a4 i hi).2 (by omega) (by omega)⟩) ?_ ?_ ?_ (fun z => v6) v10 a11 (by omega)⟩, ?_, fun a ha => kI a (by omega) (by omega) (by omega) (by omega) (by omega)⟩
      · rw [v8 17 (by omega) (by omega) (by omega) (by omega)]; exact hJ17
      · rw [kM _ (by omega) (by omega) (by omega) (by omega) (by omega) (by omega) (by omega)]; exact a7
      · rw [v5, caC_s]
      · exact v4
end MRU
