/-! NIGHTS AND DISMISSALS -/
def dsL (f : sW → Bool) (S : sS) : sS := (s_P S, (kp f (s_U S).1, (s_U S).2), sm_back (s_M S) (bk f (s_U S).1), (s_ni S, s_he S, s_up S, s_di S, s_la S + iN (nb f (s_U S).1)))
def dsD (f : sW → Bool) (S : sS) : sS := (s_P S, (kp f (s_U S).1, (s_U S).2), sm_back (s_M S) (bk f (s_U S).1), (s_ni S, s_he S, s_up S, s_di S + iN (nb f (s_U S).1), s_la S))
def clL (S : sS) (k : Nat) : sS := (s_P S, s_U (clS S k), s_M (clS S k), (s_ni S, s_he S, s_up S, s_di S, s_la S + iN 1))
def clD (S : sS) (k : Nat) : sS := (s_P S, s_U (clS S k), s_M (clS S k), (s_ni S, s_he S, s_up S, s_di S + iN 1, s_la S))
theorem ds_parts {f : sW → Bool} {S T : sS} (h : dsS f T = dsS f S) : kp f (s_U T).1 = kp f (s_U S).1 ∧ (s_U T).2 = (s_U S).2 ∧ sm_back (s_M T) (bk f (s_U T).1) = sm_back (s_M S) (bk f (s_U S).1) :=
by
  have e1 := congrArg (fun x : sS => x.2.1.1) h
  have e2 := congrArg (fun x : sS => x.2.1.2) h
  have e3 := congrArg (fun x : sS => x.2.2.1) h
  exact ⟨e1, e2, e3⟩
theorem dsL_close {f : sW → Bool} (hf : fok f) {S : sS} {k : Nat} (hk : k < un (s_U S)) (h : f (ug (s_U S) k) = false) : dsL f (clL S k) = dsL f S := by
  obtain ⟨h1, h2⟩ := dsS_close hf hk h
  obtain ⟨e1, e2, e3⟩ := ds_parts h1
  have h2 : nb f (s_U S).1 = 1 + nb f (s_U (clS S k)).1 := h2
  show (s_P S, (kp f (s_U (clS S k)).1, (s_U (clS S k)).2), sm_back (s_M (clS S k)) (bk f (s_U (clS S k)).1), (s_ni S, s_he S, s_up S, s_di S, s_la S + iN 1 + iN (nb f (s_U (clS S k)).1))) = _
  rw [e1, e2, e3, Int32.add_assoc, iN_add, ← h2]
  rfl
theorem dsD_close {f : sW → Bool} (hf : fok f) {S : sS} {k : Nat} (hk : k < un (s_U S)) (h : f (ug (s_U S) k) = false) : dsD f (clD S k) = dsD f S := by
  obtain ⟨h1, h2⟩ := dsS_close hf hk h
  obtain ⟨e1, e2, e3⟩ := ds_parts h1
  have h2 : nb f (s_U S).1 = 1 + nb f (s_U (clS S k)).1 := h2
  show (s_P S, (kp f (s_U (clS S k)).1, (s_U (clS S k)).2), sm_back (s_M (clS S k)) (bk f (s_U (clS S k)).1), (s_ni S, s_he S, s_up S, s_di S + iN 1 + iN (nb f (s_U (clS S k)).1), s_la S)) = _
  rw [e1, e2, e3, Int32.add_assoc, iN_add, ← h2]
  rfl
theorem dsL_all {f : sW → Bool} {S : sS} (h : ∀ k, k < un (s_U S) → f (ug (s_U S) k) = true) : dsL f S = S := by
  obtain ⟨h1, h2⟩ := dsS_all h
  have e1 : kp f (s_U S).1 = (s_U S).1 := by
    have := congrArg (fun x : sS => x.2.1.1) h1
    exact this
  have e3 : sm_back (s_M S) (bk f (s_U S).1) = s_M S := by
    have := congrArg (fun x : sS => x.2.2.1) h1
    exact this
  have h2 : nb f (s_U S).1 = 0 := h2
  unfold dsL
  rw [e1, e3, h2, show s_la S + iN 0 = s_la S from Int32.add_zero _]
  rfl
theorem dsD_all {f : sW → Bool} {S : sS} (h : ∀ k, k < un (s_U S) → f (ug (s_U S) k) = true) : dsD f S = S := by
  obtain ⟨h1, h2⟩ := dsS_all h
  have e1 : kp f (s_U S).1 = (s_U S).1 := by
    have := congrArg (fun x : sS => x.2.1.1) h1
    exact this
  have e3 : sm_back (s_M S) (bk f (s_U S).1) = s_M S := by
    have := congrArg (fun x : sS => x.2.2.1) h1
    exact this
  have h2 : nb f (s_U S).1 = 0 := h2
  unfold dsD
  rw [e1, e3, h2, show s_di S + iN 0 = s_di S from Int32.add_zero _]
  rfl
/-- counts don't matter to what must be -/
theorem wS_cnt {B : Nat} {S : sS} {u v w : Int32} (h : wS B S) : wS B (s_P S, s_U S, s_M S, (s_ni S, s_he S, u, v, w)) := h
theorem iN_s1 (k : Nat) : iN k - iN 1 = iN k + m1 := by
  show Int32.ofNat k - Int32.ofNat 1 = Int32.ofNat k + Int32.ofInt (-1)
  rw [Int32.sub_eq_add_neg]
  rfl
theorem z_m1 : iN 0 + m1 = m1 := Int32.zero_add _
section NT
variable {d : Nat} {I : qq_I} {τ : qq_R} {b : Nat} {S : sS} {B : Nat}
theorem R_R_n {I : qq_I} {b : Nat} {S : sS} {k : Nat} {v : Int32} {N : sN} (h : R_R I b S) (h3 : k ≠ 3 → s_ni S = N.1) (h4 : k ≠ 4 → s_he S = N.2.1) (h5 : k ≠ 5 → s_up S = N.2.2.1) (h6 : k ≠ 6 → s_di S = N.2.2.2.1) (h7 : k ≠ 7 → s_la S = N.2.2.2.2)
    (g3 : k = 3 → v = iN N.1) (g4 : k = 4 → v = caC N.2.1) (g5 : k = 5 → v = N.2.2.1) (g6 : k = 6 → v = N.2.2.2.1) (g7 : k = 7 → v = N.2.2.2.2) : R_R (up_2 I b k v) b (s_P S, s_U S, s_M S, N) := by
  obtain ⟨q1, q2, q3, q4, q5, q6, q7, q8⟩ := h
  refine ⟨R_P_same q1 (fun a _ _ => up_c (by omega)), R_U_same q2 (fun a _ _ => up_c (by omega)), R_M_same q3 (fun a _ _ => up_c (by omega)), ?_, ?_, ?_, ?_, ?_⟩
  · by_cases e : k = 3
    · rw [e, up_at]; exact g3 e
    · rw [up_k (fun z => e z.symm), q4, h3 e]; rfl
  · by_cases e : k = 4
    · rw [e, up_at]; exact g4 e
    · rw [up_k (fun z => e z.symm), q5, h4 e]; rfl
  · by_cases e : k = 5
    · rw [e, up_at]; exact g5 e
    · rw [up_k (fun z => e z.symm), q6, h5 e]; rfl
  · by_cases e : k = 6
    · rw [e, up_at]; exact g6 e
    · rw [up_k (fun z => e z.symm), q7, h6 e]; rfl
  · by_cases e : k = 7
    · rw [e, up_at]; exact g7 e
    · rw [up_k (fun z => e z.symm), q8, h7 e]; rfl
theorem c_dismissAll (hL : L_R τ b) (hR : R_R I b S) (hw : wS B S) {f : sW → Bool} (hf : fok f) {mask : Nat} {g : Nat → Bool} (hm : mask < 1000000) (hg : ∀ i, i < un (s_U S) → f (ug (s_U S) i) = !(g i)) (hb : ∀ i, i < un (s_U S) → mask / 2 ^ i % 2 = if g i = true then 1 else 0) :
    ∃ I', CC (d + 3) 89 [.ref b, .int (iN mask)] (I, τ) = some (.inl none, (I', τ)) ∧ R_R I' b (dsD f S) ∧ wS B (dsD f S) ∧ Fr b 17 I I' := by
  have hL0 := hL
  obtain ⟨hb70, k0, k1, k2, k3, lp, lw, lm⟩ := hL
  have l2 := lw.2.1
  have lp9 : ∀ k (T : sS) (J : qq_I), wS B T → R_R J b T → Fr b 17 I J → dsD f T = dsD f S → k ≤ un (s_U T) → (∀ i, i < k → f (ug (s_U T) i) = !(g i)) → k ≤ un (s_U S) → (∀ i, k ≤ i → i < un (s_U T) → f (ug (s_U T) i) = true) →
      ∃ I', RR (d + 3) 89 6 [some (.ref b), some (.int (iN mask)), some (.int (iN k + m1))] [] (J, τ) = some (.inl none, (I', τ)) ∧ R_R I' b (dsD f S) ∧ wS B (dsD f S) ∧ Fr b 17 I I' := by
    intro k
    induction k with
    | zero =>
      intro T J hT hJ hF hd _ _ _ h1
      have e : dsD f T = T := dsD_all (fun i hi => h1 i (Nat.zero_le _) hi)
      refine ⟨J, ?_, by rw [← hd, e]; exact hJ, by rw [← hd, e]; exact hT, hF⟩
      rw [z_m1, b_89_6]
      simp (disch := omega) only [rd_I_mk, rd_R_mk, rd_L_mk, rd_D_mk, kd_mk, wr_I_mk, cp_mk, gd_true, bd_ret, bd_thr, vl_none, vl_some, iN_add, iN_mul, iN_sub, iN_lt, iN_eq, iN_n, iN_m1, iN_pred, vp_iN, K0_le, nr_b0, nr_b1, m1_lt, lt_m1, iN_ne_m1, m1_ne_iN, not_lt_z, true_and, and_true, and_self, or_true, true_or, or_false, false_or, if_true, if_false, ↓reduceIte, eq_self, up_at, up_a, up_k, cp_c, cp_b, Nat.zero_add, Nat.add_zero, Nat.sub_zero, Nat.le_refl, Nat.add_sub_cancel, fu_at, fu_ne, iN_nz, n10_f, n01_f, ofN, qq_at_100, k110b, Nat.lt_irrefl, Nat.not_lt_zero, ne_eq, not_false_eq_true, not_true_eq_false]
    | succ k ih =>
      intro T J hT hJ hF hd hk1 hg1 hk2 h1
      have w1 := hT.2.2.1.1
      have hbk := hb k (by omega)
      have hgk := hg1 k (Nat.lt_succ_self _)
      rw [iN_m1, b_89_6]
      cases hgg : g k with
      | true =>
        rw [hgg] at hgk hbk
        have hbk : mask / 2 ^ k % 2 = 1 := hbk
        have hgk : f (ug (s_U T) k) = false := hgk
        obtain ⟨J1, s1, s2, s3⟩ := c_closeWithoutFine (d := d) hL0 hJ hT (k := k) (by omega)
        have hun : un (s_U (clS T k)) = un (s_U T) - 1 := un_close (by omega)
        obtain ⟨I', t1, t2⟩ := ih (clD T k) (up_2 J1 b 6 (s_di T + iN 1)) (wS_cnt (wS_cl hT (by omega))) (R_R_n (S := clS T k) s2 (fun _ => rfl) (fun _ => rfl) (fun _ => rfl) (fun z => absurd rfl z) (fun _ => rfl) (fun z => by omega) (fun z => by omega) (fun z => by omega) (fun _ => rfl) (fun z => by omega)) (Fr_tr hF (Fr_tr s3 (Fr_up (by omega)))) ((dsD_close hf (by omega) hgk).trans hd) (by show k ≤ un (s_U (clS T k)); omega)
          (fun i hi => by
            show f (ug (su_close (s_U T) k) i) = _
            rw [ug_close (by omega) (by omega), if_pos hi, hf]; exact hg1 i (by omega)) (by omega)
          (fun i hi1 hi2 => by
            have hi2 : i < un (s_U (clS T k)) := hi2
            show f (ug (su_close (s_U T) k) i) = _
            rw [ug_close (by omega) (by omega), if_neg (by omega), hf]; exact h1 (i + 1) (by omega) (by omega))
        refine ⟨I', ?_, t2⟩
        have e6 := s2.2.2.2.2.2.2.1
        have e6 : J1 b 6 = s_di T := e6
        simp (disch := omega) only [rd_I_mk, rd_R_mk, rd_L_mk, rd_D_mk, kd_mk, wr_I_mk, cp_mk, gd_true, bd_ret, bd_thr, vl_none, vl_some, iN_add, iN_mul, iN_sub, iN_lt, iN_eq, iN_n, iN_m1, iN_pred, vp_iN, K0_le, nr_b0, nr_b1, m1_lt, lt_m1, iN_ne_m1, m1_ne_iN, not_lt_z, true_and, and_true, and_self, or_true, true_or, or_false, false_or, if_true, if_false, ↓reduceIte, eq_self, up_at, up_a, up_k, cp_c, cp_b, Nat.zero_add, Nat.add_zero, Nat.sub_zero, Nat.le_refl, Nat.add_sub_cancel, fu_at, fu_ne, iN_nz, n10_f, n01_f, ofN, qq_at_100, k110b, Nat.lt_irrefl, Nat.not_lt_zero, ne_eq, not_false_eq_true, not_true_eq_false, iN_shr, iN_and1, hbk, k0, s1, b_89_18, e6, b_89_24]
        exact t1
      | false =>
        rw [hgg] at hgk hbk
        have hbk : mask / 2 ^ k % 2 = 0 := hbk
        have hgk : f (ug (s_U T) k) = true := hgk
        obtain ⟨I', t1, t2⟩ := ih T J hT hJ hF hd (by omega) (fun i hi => hg1 i (by omega)) (by omega) (fun i hi1 hi2 => by
          by_cases e : i = k
          · rw [e]; exact hgk
          · exact h1 i (by omega) hi2)
        refine ⟨I', ?_, t2⟩
        have e9 : (iN k + m1) = iN k + m1 := rfl
        simp (disch := omega) only [not_lt_z, iN_shr, iN_and1, hbk, iN_eq, n01_f, if_false, b_89_24]
        exact t1
  have h0 := hR.2.1.1
  have w1 := hw.2.2.1.1
  obtain ⟨I', t1, t2⟩ := lp9 (un (s_U S)) S I hw hR Fr_rf rfl (Nat.le_refl _) hg (Nat.le_refl _) (fun i h1 h2 => by omega)
  refine ⟨I', ?_, t2⟩
  rw [c_89, b_89_0]
  simp (disch := omega) only [rd_I_mk, rd_R_mk, rd_L_mk, rd_D_mk, kd_mk, wr_I_mk, cp_mk, gd_true, bd_ret, bd_thr, vl_none, vl_some, iN_add, iN_mul, iN_lt, iN_eq, iN_n, iN_m1, iN_pred, vp_iN, K0_le, nr_b0, nr_b1, m1_lt, lt_m1, iN_ne_m1, m1_ne_iN, not_lt_z, true_and, and_true, and_self, or_true, true_or, or_false, false_or, if_true, if_false, ↓reduceIte, eq_self, up_at, up_a, up_k, cp_c, cp_b, Nat.zero_add, Nat.add_zero, Nat.sub_zero, Nat.le_refl, Nat.add_sub_cancel, fu_at, fu_ne, iN_nz, n10_f, n01_f, ofN, qq_at_100, k110b, Nat.lt_irrefl, Nat.not_lt_zero, ne_eq, not_false_eq_true, not_true_eq_false, k0, k2, l2, h0]
  rw [iN_s1]
  exact t1
/-- the statues that move, rank by rank -/
def mvP (U : sU) : Nat → sP → sP × Nat
  | 0, P => (P, 0)
  | r + 1, P =>
    let q := mvP U r P
    let s := (p_hf q.1).getD r 0
    let t := p_ar q.1 (p_pl q.1 s)
    if bU U s = true then q else if onP q.1 t = none then (sp_mov q.1 s t, q.2 + 1) else q
theorem mvP_ok {U : sU} {P : sP} (hw : wP P) : ∀ r, r ≤ p_ns P → wP (mvP U r P).1 ∧ p_hf (mvP U r P).1 = p_hf P ∧ p_ns (mvP U r P).1 = p_ns P ∧ p_np (mvP U r P).1 = p_np P ∧ p_ar (mvP U r P).1 = p_ar P ∧ p_we (mvP U r P).1 = p_we P ∧ p_ho (mvP U r P).1 = p_ho P ∧ (mvP U r P).2 ≤ r := by
  intro r
  induction r with
  | zero => intro _; exact ⟨hw, rfl, rfl, rfl, rfl, rfl, rfl, Nat.le_refl _⟩
  | succ r ih =>
    intro hr
    obtain ⟨h1, h2, h3, h4, h5, h6, h7, h8⟩ := ih (by omega)
    have hs := wP_hfl h1 (i := r) (by omega)
    rw [mvP]
    show wP (if _ then _ else _ : sP × Nat).1 ∧ _
    split
    · exact ⟨h1, h2, h3, h4, h5, h6, h7, by omega⟩
    · split
      · rename_i ho
        refine ⟨wP_mov h1 hs ?_ ho, h2, h3, h4, h5, h6, h7, by show (mvP U r P).2 + 1 ≤ r + 1; omega⟩
        exact h1.2.2.1 _ (h1.2.2.2.1 _ hs).2.2.1
      · exact ⟨h1, h2, h3, h4, h5, h6, h7, by omega⟩
theorem mvP_wS {B : Nat} {S : sS} (hw : wS B S) {r : Nat} (hr : r ≤ p_ns (s_P S)) : wS B ((mvP (s_U S) r (s_P S)).1, s_U S, s_M S, s_N S) := by
  obtain ⟨q1, q2, q3, q4, q5, q6, q7, q8, q9⟩ := hw
  obtain ⟨h1, h2, h3, h4⟩ := mvP_ok (U := s_U S) q2 r hr
  exact ⟨q1, h1, q3, q4, q5, fun k hk => ⟨by show _ < p_ns (mvP (s_U S) r (s_P S)).1; rw [h3]; exact (q6 k hk).1, (q6 k hk).2⟩, q7, q8, q9⟩
theorem c_moveStatues (hL : L_R τ b) (hR : R_R I b S) (hw : wS B S) : ∃ I', CC (d + 2) 95 [.ref b] (I, τ) = some (.inl (some (.int (iN (mvP (s_U S) (p_ns (s_P S)) (s_P S)).2))), (I', τ)) ∧ R_R I' b ((mvP (s_U S) (p_ns (s_P S)) (s_P S)).1, s_U S, s_M S, s_N S) ∧ Fr b 17 I I' := by
  obtain ⟨hb70, k0, k1, k2, k3, lp, lw, lm⟩ := hL
  have l1 := lp.2.1
  have l2 := lw.2.1
  obtain ⟨hp, -, j1, j3, j4, j5, j6, i1, i2, i3, i4, i5⟩ := lp
  have lp : L_P τ (b + 1) := ⟨hp, l1, j1, j3, j4, j5, j6, i1, i2, i3, i4, i5⟩
  have w1 := hw.2.1.1
  have w2 := hw.2.1.2.1
  have hh : ∀ m r (J : qq_I) (u3 u4 : Option Value), r + m = p_ns (s_P S) → R_R J b ((mvP (s_U S) r (s_P S)).1, s_U S, s_M S, s_N S) → Fr b 17 I J →
      ∃ I', RR (d + 1 + 1) 95 4 [some (.ref b), some (.int (iN (mvP (s_U S) r (s_P S)).2)), some (.int (iN r)), u3, u4] [] (J, τ) = some (.inl (some (.int (iN (mvP (s_U S) (p_ns (s_P S)) (s_P S)).2))), (I', τ)) ∧ R_R I' b ((mvP (s_U S) (p_ns (s_P S)) (s_P S)).1, s_U S, s_M S, s_N S) ∧ Fr b 17 I I' := by
    intro m
    induction m with
    | zero =>
      intro r J u3 u4 hr hJ hF
      have hr : r = p_ns (s_P S) := hr
      obtain ⟨h1, h2, h3, h4, h5, h6, h7, h8⟩ := mvP_ok (U := s_U S) hw.2.1 r (by omega)
      have e2 : J (b + 1) 2 = iN (p_ns (mvP (s_U S) r (s_P S)).1) := hJ.1.2.1
      rw [h3] at e2
      have e : ¬ r < p_ns (s_P S) := by omega
      refine ⟨J, ?_, by rw [← hr]; exact hJ, hF⟩
      rw [b_95_4]
      simp (disch := omega) only [rd_I_mk, rd_R_mk, rd_L_mk, rd_D_mk, kd_mk, wr_I_mk, cp_mk, gd_true, bd_ret, bd_thr, vl_none, vl_some, iN_add, iN_mul, iN_sub, iN_lt, iN_eq, iN_n, iN_m1, iN_pred, vp_iN, K0_le, nr_b0, nr_b1, m1_lt, lt_m1, iN_ne_m1, m1_ne_iN, not_lt_z, true_and, and_true, and_self, or_true, true_or, or_false, false_or, if_true, if_false, ↓reduceIte, eq_self, up_at, up_a, up_k, cp_c, cp_b, Nat.zero_add, Nat.add_zero, Nat.sub_zero, Nat.le_refl, Nat.add_sub_cancel, fu_at, fu_ne, iN_nz, n10_f, n01_f, ofN, qq_at_100, k110b, Nat.lt_irrefl, Nat.not_lt_zero, ne_eq, not_false_eq_true, not_true_eq_false, k0, k1, l1, e2, e]
      rw [hr]
    | succ m ih =>
      intro r J u3 u4 hr hJ hF
      obtain ⟨h1, h2, h3, h4, h5, h6, h7, h8⟩ := mvP_ok (U := s_U S) hw.2.1 r (by omega)
      obtain ⟨r0, r2, r3, r4, r5, r6, r7⟩ := hJ.1
      have e2 : J (b + 1) 2 = iN (p_ns (mvP (s_U S) r (s_P S)).1) := r2
      rw [h3] at e2
      have w21 : p_ns (s_P S) < 1000000 := by omega
      have e : r < p_ns (s_P S) := by omega
      have er : (iN r < iN (p_ns (s_P S))) = True := (iN_lt (by omega) (by omega)).trans (eq_true e)
      have hs := wP_hfl h1 (i := r) (by omega)
      have e7 : J (b + 1 + 5) r = iN ((p_hf (mvP (s_U S) r (s_P S)).1).getD r 0) := r7 r (by show r < p_ns (mvP (s_U S) r (s_P S)).1; omega)
      have hq : mvP (s_U S) (r + 1) (s_P S) = if bU (s_U S) ((p_hf (mvP (s_U S) r (s_P S)).1).getD r 0) = true then mvP (s_U S) r (s_P S) else if onP (mvP (s_U S) r (s_P S)).1 (p_ar (mvP (s_U S) r (s_P S)).1 (p_pl (mvP (s_U S) r (s_P S)).1 ((p_hf (mvP (s_U S) r (s_P S)).1).getD r 0))) = none then (sp_mov (mvP (s_U S) r (s_P S)).1 ((p_hf (mvP (s_U S) r (s_P S)).1).getD r 0) (p_ar (mvP (s_U S) r (s_P S)).1 (p_pl (mvP (s_U S) r (s_P S)).1 ((p_hf (mvP (s_U S) r (s_P S)).1).getD r 0))), (mvP (s_U S) r (s_P S)).2 + 1) else mvP (s_U S) r (s_P S) := by rw [mvP]
      generalize hQ : mvP (s_U S) r (s_P S) = Q at *
      obtain ⟨P', n⟩ := Q
      dsimp only at *
      generalize hst : (p_hf P').getD r 0 = s at *
      have hpl := h1.2.2.2.1 s hs
      have har := h1.2.2.1 _ hpl.2.2.1
      have e5 : J (b + 1 + 3) s = iN (p_pl P' s) := r5 s hs
      have e3 : J (b + 1 + 1) (p_pl P' s) = iN (p_ar P' (p_pl P' s)) := r3 _ hpl.2.2.1
      have fb := c_bind (d := d + 1) lw hJ.2.1 hw.2.2.1 (x := s) (by omega)
      have fb : CC (d + 1) 126 [.ref (b + 7), .int (iN s)] (J, τ) = some (.inl (some (.int (if bU (s_U S) s = true then iN 1 else iN 0))), (J, τ)) := fb
      obtain ⟨J1, s1, s2, s3⟩ := c_moveIfFree (d := d) lp hJ.1 h1 (x := s) (y := p_ar P' (p_pl P' s)) hs har
      have s1 : CC (d + 1) 68 [.ref (b + 1), .int (iN s), .int (iN (p_ar P' (p_pl P' s)))] (J, τ) = some (.inl (some (.int (if onP P' (p_ar P' (p_pl P' s)) = none then iN 1 else iN 0))), (J1, τ)) := s1
      have s2 : R_P J1 (b + 1) (if onP P' (p_ar P' (p_pl P' s)) = none then sp_mov P' s (p_ar P' (p_pl P' s)) else P') := s2
      by_cases hb : bU (s_U S) s = true
      · rw [if_pos hb] at hq fb
        obtain ⟨I', t1, t2⟩ := ih (r + 1) J (some (.int (iN s))) (some (.int (iN (p_ar P' (p_pl P' s))))) (by omega) (by rw [hq]; exact hJ) hF
        rw [hq] at t1
        refine ⟨I', ?_, t2⟩
        rw [b_95_4]
        simp (disch := omega) only [rd_I_mk, rd_R_mk, rd_L_mk, rd_D_mk, kd_mk, wr_I_mk, cp_mk, gd_true, bd_ret, bd_thr, vl_none, vl_some, iN_add, iN_mul, iN_sub, iN_lt, iN_eq, iN_n, iN_m1, iN_pred, vp_iN, K0_le, nr_b0, nr_b1, m1_lt, lt_m1, iN_ne_m1, m1_ne_iN, not_lt_z, true_and, and_true, and_self, or_true, true_or, or_false, false_or, if_true, if_false, ↓reduceIte, eq_self, up_at, up_a, up_k, cp_c, cp_b, Nat.zero_add, Nat.add_zero, Nat.sub_zero, Nat.le_refl, Nat.add_sub_cancel, fu_at, fu_ne, iN_nz, n10_f, n01_f, ofN, qq_at_100, k110b, Nat.lt_irrefl, Nat.not_lt_zero, ne_eq, not_false_eq_true, not_true_eq_false, k0, k1, l1, e2, er, j6, i5, e7, j4, i3, e5, j1, i1, e3, k2, l2, fb, b_95_29, b_95_37]
        exact t1
      · rw [if_neg hb] at hq fb
        by_cases ho : onP P' (p_ar P' (p_pl P' s)) = none
        · rw [if_pos ho] at hq s1 s2
          obtain ⟨I', t1, t2⟩ := ih (r + 1) J1 (some (.int (iN s))) (some (.int (iN (p_ar P' (p_pl P' s))))) (by omega) (by
            rw [hq]
            obtain ⟨q1, q2, q3, q4, q5, q6, q7, q8⟩ := hJ
            refine ⟨s2, R_U_same q2 (fun a _ _ => s3 a (by omega)), R_M_same q3 (fun a _ _ => s3 a (by omega)), ?_, ?_, ?_, ?_, ?_⟩ <;> rw [s3 b (by omega)] <;> assumption) (Fr_tr hF (Fr_wd s3 (by omega) (by omega)))
          rw [hq] at t1
          refine ⟨I', ?_, t2⟩
          rw [b_95_4]
          simp (disch := omega) only [rd_I_mk, rd_R_mk, rd_L_mk, rd_D_mk, kd_mk, wr_I_mk, cp_mk, gd_true, bd_ret, bd_thr, vl_none, vl_some, iN_add, iN_mul, iN_sub, iN_lt, iN_eq, iN_n, iN_m1, iN_pred, vp_iN, K0_le, nr_b0, nr_b1, m1_lt, lt_m1, iN_ne_m1, m1_ne_iN, not_lt_z, true_and, and_true, and_self, or_true, true_or, or_false, false_or, if_true, if_false, ↓reduceIte, eq_self, up_at, up_a, up_k, cp_c, cp_b, Nat.zero_add, Nat.add_zero, Nat.sub_zero, Nat.le_refl, Nat.add_sub_cancel, fu_at, fu_ne, iN_nz, n10_f, n01_f, ofN, qq_at_100, k110b, Nat.lt_irrefl, Nat.not_lt_zero, ne_eq, not_false_eq_true, not_true_eq_false, k0, k1, l1, e2, er, j6, i5, e7, j4, i3, e5, j1, i1, e3, k2, l2, fb, b_95_29, s1, b_95_35, b_95_37]
          exact t1
        · rw [if_neg ho] at hq s1 s2
          obtain ⟨I', t1, t2⟩ := ih (r + 1) J1 (some (.int (iN s))) (some (.int (iN (p_ar P' (p_pl P' s))))) (by omega) (by
            rw [hq]
            obtain ⟨q1, q2, q3, q4, q5, q6, q7, q8⟩ := hJ
            refine ⟨s2, R_U_same q2 (fun a _ _ => s3 a (by omega)), R_M_same q3 (fun a _ _ => s3 a (by omega)), ?_, ?_, ?_, ?_, ?_⟩ <;> rw [s3 b (by omega)] <;> assumption) (Fr_tr hF (Fr_wd s3 (by omega) (by omega)))
          rw [hq] at t1
          refine ⟨I', ?_, t2⟩
          rw [b_95_4]
          simp (disch := omega) only [rd_I_mk, rd_R_mk, rd_L_mk, rd_D_mk, kd_mk, wr_I_mk, cp_mk, gd_true, bd_ret, bd_thr, vl_none, vl_some, iN_add, iN_mul, iN_sub, iN_lt, iN_eq, iN_n, iN_m1, iN_pred, vp_iN, K0_le, nr_b0, nr_b1, m1_lt, lt_m1, iN_ne_m1, m1_ne_iN, not_lt_z, true_and, and_true, and_self, or_true, true_or, or_false, false_or, if_true, if_false, ↓reduceIte, eq_self, up_at, up_a, up_k, cp_c, cp_b, Nat.zero_add, Nat.add_zero, Nat.sub_zero, Nat.le_refl, Nat.add_sub_cancel, fu_at, fu_ne, iN_nz, n10_f, n01_f, ofN, qq_at_100, k110b, Nat.lt_irrefl, Nat.not_lt_zero, ne_eq, not_false_eq_true, not_true_eq_false, k0, k1, l1, e2, er, j6, i5, e7, j4, i3, e5, j1, i1, e3, k2, l2, fb, b_95_29, s1, b_95_35, b_95_37]
          exact t1
  rw [c_95, b_95_0]
  exact hh (p_ns (s_P S)) 0 I none none (by omega) hR Fr_rf
end NT
