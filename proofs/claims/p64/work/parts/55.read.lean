/-! THE SCRIPT: reading a command, reading all -/
/-- an argument as it lies there: -1 if it was not given -/
def aN (a : List Nat) (i : Nat) : Int32 := if i < a.length then iN (a.getD i 0) else m1
/-- the commands read, or where reading stopped -/
def rdS (T : List Nat) : Nat → Nat → List (Nat × List Nat) → Bool × Nat × List (Nat × List Nat)
  | 0, pos, cs => (false, pos, cs)
  | m + 1, pos, cs =>
    if (rdF T (frm (lk T pos 9).1) pos []).1 = false then (false, (rdF T (frm (lk T pos 9).1) pos []).2.1, cs)
    else if (rdF T (frm (lk T pos 9).1) pos []).2.1 = T.length then (true, (rdF T (frm (lk T pos 9).1) pos []).2.1, cs ++ [((lk T pos 9).1, (rdF T (frm (lk T pos 9).1) pos []).2.2)])
    else if sg T (rdF T (frm (lk T pos 9).1) pos []).2.1 = 59 then rdS T m ((rdF T (frm (lk T pos 9).1) pos []).2.1 + 1) (cs ++ [((lk T pos 9).1, (rdF T (frm (lk T pos 9).1) pos []).2.2)])
    else (false, (rdF T (frm (lk T pos 9).1) pos []).2.1, cs ++ [((lk T pos 9).1, (rdF T (frm (lk T pos 9).1) pos []).2.2)])
section RC
variable {d : Nat} {I : qq_I} {τ : qq_R} {p Z : Nat} {T : List Nat}
/-- the same but for the commands at p + 3 -/
def Cq (p : Nat) (τ τ' : qq_R) : Prop := tZ τ' = tZ τ ∧ tU τ' = tU τ ∧ (∀ a, tK τ' a = tK τ a) ∧ τ'.2.1 = τ.2.1 ∧ τ'.2.2.1 = τ.2.2.1 ∧ ∀ a, a ≠ p + 3 → τ'.1 a = τ.1 a
theorem Cq_rf {τ : qq_R} : Cq p τ τ := ⟨rfl, rfl, fun _ => rfl, rfl, rfl, fun _ _ => rfl⟩
theorem Cq_tr {τ τ' τ'' : qq_R} (h : Cq p τ τ') (h2 : Cq p τ' τ'') : Cq p τ τ'' := ⟨h2.1.trans h.1, h2.2.1.trans h.2.1, fun a => (h2.2.2.1 a).trans (h.2.2.1 a), h2.2.2.2.1.trans h.2.2.2.1, h2.2.2.2.2.1.trans h.2.2.2.2.1, fun a ha => (h2.2.2.2.2.2 a ha).trans (h.2.2.2.2.2 a ha)⟩
theorem Cq_uR {τ : qq_R} {k v : Nat} : Cq p τ (uR τ (p + 3) k v) := ⟨rfl, rfl, fun _ => rfl, rfl, rfl, fun a ha => funext (fun j => if_neg (fun q => ha q.1))⟩
theorem Cq_R {τ τ' : qq_R} (h : Cq p τ τ') {a k : Nat} (ha : a ≠ p + 3) : tR τ' a k = tR τ a k := congrFun (h.2.2.2.2.2 a ha) k
theorem SC_Cq {I' : qq_I} {τ' : qq_R} (h : SC I τ p Z T) (hq : Cq p τ τ') (hI : ∀ a, (a = p + 1 ∨ a = p + 2 ∨ Z ≤ a) → I' a = I a) : SC I' τ' p Z T := by
  obtain ⟨h1, h2, h3, h4, h5⟩ := h
  refine ⟨L_S_T h1 (fun a ha hb => ⟨hq.2.2.1 a, fun k => Cq_R hq (by omega)⟩) (hq.2.2.1 _) (fun a ha hb => ⟨hq.2.2.1 a, fun k => Cq_R hq (by omega)⟩), ?_, h3, h4, h5⟩
  obtain ⟨s70, sZ, hZ, g1, g2, g3, v, n, g4, g5, g6, g7, g8, g9, hv, gi, gl⟩ := h2
  have e1 := hI (p + 1) (Or.inl rfl)
  have e2 := hI v (by omega)
  exact ⟨s70, sZ, by rw [hq.1]; exact hZ, (hq.2.2.1 _).trans g1, by rw [e1]; exact g2, by rw [e1]; exact g3, v, n, (Cq_R hq (by omega)).trans g4, (hq.2.2.1 _).trans g5, g6, g7, g8, g9, by rw [hq.1]; exact hv, fun i hi => by rw [e2]; exact gi i hi, fun i hi => by rw [e2]; exact gl i hi⟩
theorem KC_Cq {I' : qq_I} {τ' : qq_R} (h : KC I τ) (hp : 70 ≤ p) (hq : Cq p τ τ') (hI : ∀ a, a < 70 → I' a = I a) : KC I' τ' := KC_same h (fun a ha => ⟨hI a ha, hq.2.2.1 a, fun k => Cq_R hq (by omega)⟩)
theorem c_readCommand (h : SC I τ p Z T) (hK : KC I τ) {pos cn : Nat} (hp : I p 5 = iN pos) (hpos : pos ≤ T.length) (hc3 : I p 3 = iN cn) (hcn : cn < 11) :
    ∃ I' τ', CC (d + 9) 102 [.ref p] (I, τ) = some (.inl (some (.int (b01 (rdF T (frm (lk T pos 9).1) pos []).1))), (I', τ')) ∧ Cq p τ τ' ∧ (∀ k, k ≠ cn → tR τ' (p + 3) k = tR τ (p + 3) k) ∧ tR τ' (p + 3) cn = 57 + (lk T pos 9).1 ∧ I' p 5 = iN (rdF T (frm (lk T pos 9).1) pos []).2.1 ∧ I' p 3 = iN cn ∧
      (∀ i, i < 4 → I' (p + 5 + cn) i = aN (rdF T (frm (lk T pos 9).1) pos []).2.2 i) ∧ (∀ a, a ≠ p → a ≠ p + 5 + cn → I' a = I a) ∧ (rdF T (frm (lk T pos 9).1) pos []).2.1 ≤ T.length := by
  have h0 := h
  have hS := h.1
  obtain ⟨p70, k9, s0, s1, s2, s3, s4, s5, s6⟩ := hS
  have hl60 := h.2.2.1
  have hz16 := h.2.2.2.2
  have hK0 := hK
  obtain ⟨-, hst, a1, a2, -⟩ := hK
  have hlk := lk_9 (T := T) (pos := pos)
  have q1 := c_likeliest (d := d) h hK0 hp (by omega)
  obtain ⟨b1, b2, b3, b4⟩ := a2 _ hlk
  have hstf := hst _ (frm_mem _ hlk)
  obtain ⟨gf, gn⟩ := frm_ok _ hlk
  generalize (lk T pos 9).1 = k at *
  have s5' := s5 cn hcn
  have s6' := s6 cn hcn
  have hq : Cq p τ (uR τ (p + 3) cn (57 + k)) := Cq_uR
  have lp : ∀ m i (J : qq_I), i + m = 4 → (∀ j, j ≠ 4 → J p j = I p j) → J p 4 = iN 0 → (∀ j, j < i → J (p + 5 + cn) j = m1) → (∀ a, a ≠ p → a ≠ p + 5 + cn → J a = I a) →
      ∃ J', RR (d + 8 + 1) 102 14 [some (.ref p), some (.ref (57 + k)), some (.int (iN i))] [] (J, uR τ (p + 3) cn (57 + k)) = RR (d + 8 + 1) 102 14 [some (.ref p), some (.ref (57 + k)), some (.int (iN 4))] [] (J', uR τ (p + 3) cn (57 + k)) ∧ (∀ j, j ≠ 4 → J' p j = I p j) ∧ J' p 4 = iN 0 ∧ (∀ j, j < 4 → J' (p + 5 + cn) j = m1) ∧ (∀ a, a ≠ p → a ≠ p + 5 + cn → J' a = I a) := by
    intro m
    induction m with
    | zero =>
      intro i J hi h1 h2 h3 h4
      have hi : i = 4 := hi
      subst hi
      exact ⟨J, rfl, h1, h2, h3, h4⟩
    | succ m ih =>
      intro i J hi h1 h2 h3 h4
      have j3 : J p 3 = iN cn := (h1 3 (by omega)).trans hc3
      have e : i < 4 := by omega
      obtain ⟨J', t1, t2⟩ := ih (i + 1) (up_2 J (p + 5 + cn) i m1) (by omega) (fun j hj => by rw [up_c (by omega)]; exact h1 j hj) (by rw [up_c (by omega)]; exact h2) (fun j hj => by
        by_cases z : j = i
        · rw [z, up_at]
        · rw [up_k z]; exact h3 j (by omega)) (fun a ha hb => by rw [up_c hb]; exact h4 a ha hb)
      refine ⟨J', ?_, t2⟩
      rw [b_102_14]
      simp (disch := omega) only [rd_I_mk, rd_R_mk, rd_L_mk, rd_D_mk, kd_mk, wr_I_mk, cp_mk, gd_true, bd_ret, bd_thr, vl_none, vl_some, iN_add, iN_mul, iN_sub, iN_lt, iN_eq, iN_n, iN_m1, iN_pred, vp_iN, K0_le, nr_b0, nr_b1, m1_lt, lt_m1, iN_ne_m1, m1_ne_iN, not_lt_z, true_and, and_true, and_self, or_true, true_or, or_false, false_or, if_true, if_false, ↓reduceIte, eq_self, up_at, up_a, up_k, cp_c, cp_b, Nat.zero_add, Nat.add_zero, Nat.sub_zero, Nat.le_refl, Nat.add_sub_cancel, fu_at, fu_ne, iN_nz, n10_f, n01_f, ofN, qq_at_100, k110b, Nat.lt_irrefl, Nat.not_lt_zero, ne_eq, not_false_eq_true, not_true_eq_false, e, uR_K, uR_a, k9, s2, s4, j3, s5', s6', k9_4, b_102_25]
      exact t1
  obtain ⟨J, t1, t2, t3, t4, t5⟩ := lp 4 0 (up_2 I p 4 (iN 0)) rfl (fun j hj => up_k hj) up_at (fun j hj => absurd hj (Nat.not_lt_zero _)) (fun a ha _ => up_c ha)
  have hSC : SC J (uR τ (p + 3) cn (57 + k)) p Z T := SC_Cq h0 hq (fun a ha => t5 a (by omega) (by omega))
  have hStF : St J (uR τ (p + 3) cn (57 + k)) (39 + 2 * k) (frm k) := St_same hstf (fun a ha => ⟨t5 a (by omega) (by omega), rfl, fun j => uR_a (by omega)⟩)
  obtain ⟨K, u1, ⟨u5, u4, u3, ua⟩, ⟨v1, v2, v3⟩, v4⟩ := c_readForm (d := d + 1) hSC hStF gf gn (cn := cn) (pos := pos) ⟨(t2 5 (by omega)).trans hp, t3, (t2 3 (by omega)).trans hc3, fun i hi => absurd hi (Nat.not_lt_zero _)⟩ hpos hcn
  refine ⟨K, uR τ (p + 3) cn (57 + k), ?_, hq, fun j hj => uR_k hj, uR_at, u5, u3, fun i hi => ?_, fun a ha hb => by rw [v3 a ha hb, t5 a ha hb], v4⟩
  · rw [c_102, b_102_0]
    have n44 : ¬ 4 < 4 := by omega
    simp (disch := omega) only [rd_I_mk, rd_R_mk, rd_L_mk, rd_D_mk, kd_mk, wr_I_mk, cp_mk, gd_true, bd_ret, bd_thr, vl_none, vl_some, iN_add, iN_mul, iN_sub, iN_lt, iN_eq, iN_n, iN_m1, iN_pred, vp_iN, K0_le, nr_b0, nr_b1, m1_lt, lt_m1, iN_ne_m1, m1_ne_iN, not_lt_z, true_and, and_true, and_self, or_true, true_or, or_false, false_or, if_true, if_false, ↓reduceIte, eq_self, up_at, up_a, up_k, cp_c, cp_b, Nat.zero_add, Nat.add_zero, Nat.sub_zero, Nat.le_refl, Nat.add_sub_cancel, fu_at, fu_ne, iN_nz, n10_f, n01_f, ofN, qq_at_100, k110b, Nat.lt_irrefl, Nat.not_lt_zero, ne_eq, not_false_eq_true, not_true_eq_false, k9, q1, b_102_2, s1, s3, b2, hc3, wr_R_mk, b_102_9, uR_K, b_102_12]
    rw [t1, b_102_14]
    cases hb : (rdF T (frm k) pos []).1 with
    | false =>
      rw [hb, b01_f] at u1
      simp (disch := omega) only [rd_I_mk, rd_R_mk, rd_L_mk, rd_D_mk, kd_mk, wr_I_mk, cp_mk, gd_true, bd_ret, bd_thr, vl_none, vl_some, iN_add, iN_mul, iN_sub, iN_lt, iN_eq, iN_n, iN_m1, iN_pred, vp_iN, K0_le, nr_b0, nr_b1, m1_lt, lt_m1, iN_ne_m1, m1_ne_iN, not_lt_z, true_and, and_true, and_self, or_true, true_or, or_false, false_or, if_true, if_false, ↓reduceIte, eq_self, up_at, up_a, up_k, cp_c, cp_b, Nat.zero_add, Nat.add_zero, Nat.sub_zero, Nat.le_refl, Nat.add_sub_cancel, fu_at, fu_ne, iN_nz, n10_f, n01_f, ofN, qq_at_100, k110b, Nat.lt_irrefl, Nat.not_lt_zero, ne_eq, not_false_eq_true, not_true_eq_false, n44, uR_K, uR_a, b2, b4, k9, u1, b_102_31, b01_f]
    | true =>
      rw [hb, b01_t] at u1
      simp (disch := omega) only [rd_I_mk, rd_R_mk, rd_L_mk, rd_D_mk, kd_mk, wr_I_mk, cp_mk, gd_true, bd_ret, bd_thr, vl_none, vl_some, iN_add, iN_mul, iN_sub, iN_lt, iN_eq, iN_n, iN_m1, iN_pred, vp_iN, K0_le, nr_b0, nr_b1, m1_lt, lt_m1, iN_ne_m1, m1_ne_iN, not_lt_z, true_and, and_true, and_self, or_true, true_or, or_false, false_or, if_true, if_false, ↓reduceIte, eq_self, up_at, up_a, up_k, cp_c, cp_b, Nat.zero_add, Nat.add_zero, Nat.sub_zero, Nat.le_refl, Nat.add_sub_cancel, fu_at, fu_ne, iN_nz, n10_f, n01_f, ofN, qq_at_100, k110b, Nat.lt_irrefl, Nat.not_lt_zero, ne_eq, not_false_eq_true, not_true_eq_false, n44, uR_K, uR_a, b2, b4, k9, u1, b_102_31, b01_t]
  · unfold aN
    by_cases z : i < (rdF T (frm k) pos []).2.2.length
    · rw [if_pos z, ua i z, List.getD_eq_getElem?_getD, List.getElem?_eq_getElem z]; rfl
    · rw [if_neg z, v2 i (by omega)]; exact t4 i hi
/-- the commands as they lie there -/
def CS (I : qq_I) (τ : qq_R) (p : Nat) (cs : List (Nat × List Nat)) : Prop := I p 3 = iN cs.length ∧ ∀ j (h : j < cs.length), tR τ (p + 3) j = 57 + cs[j].1 ∧ cs[j].1 < 9 ∧ ∀ i, i < 4 → I (p + 5 + j) i = aN cs[j].2 i
theorem c_read (h : SC I τ p Z T) (hK : KC I τ) : ∃ I' τ', CC (d + 10) 101 [.ref p] (I, τ) = some (.inl (some (.int (b01 (rdS T 11 0 []).1))), (I', τ')) ∧ SC I' τ' p Z T ∧ KC I' τ' ∧ Cq p τ τ' ∧ I' p 5 = iN (rdS T 11 0 []).2.1 ∧ (rdS T 11 0 []).2.1 ≤ 60 ∧ ((rdS T 11 0 []).1 = true → CS I' τ' p (rdS T 11 0 []).2.2 ∧ (rdS T 11 0 []).2.2.length ≤ 11) ∧ (∀ a, (a < p ∨ p + 16 ≤ a) → I' a = I a) := by
  have hS := h.1
  obtain ⟨p70, k9, s0, -⟩ := hS
  have hl60 := h.2.2.1
  have hz16 := h.2.2.2.2
  have k2 : tK τ (p + 1) = (2, 0) := h.2.1.2.2.2.1
  have lp : ∀ m pos (cs : List (Nat × List Nat)) (J : qq_I) (ρ : qq_R), cs.length + m = 11 → SC J ρ p Z T → KC J ρ → Cq p τ ρ → J p 5 = iN pos → pos ≤ T.length → CS J ρ p cs → (∀ a, (a < p ∨ p + 16 ≤ a) → J a = I a) →
      ∃ I' τ', RR (d + 9 + 1) 101 6 [some (.ref p)] [] (J, ρ) = some (.inl (some (.int (b01 (rdS T m pos cs).1))), (I', τ')) ∧ SC I' τ' p Z T ∧ KC I' τ' ∧ Cq p τ τ' ∧ I' p 5 = iN (rdS T m pos cs).2.1 ∧ (rdS T m pos cs).2.1 ≤ 60 ∧ ((rdS T m pos cs).1 = true → CS I' τ' p (rdS T m pos cs).2.2 ∧ (rdS T m pos cs).2.2.length ≤ 11) ∧ (∀ a, (a < p ∨ p + 16 ≤ a) → I' a = I a) := by
    intro m
    induction m with
    | zero =>
      intro pos cs J ρ hm hJ hKJ hq h5 hp hcs hI
      have hm : cs.length = 11 := hm
      have h3 := hcs.1
      rw [hm] at h3
      have k9' := (hq.2.2.1 p).trans k9
      refine ⟨J, ρ, ?_, hJ, hKJ, hq, h5, by show pos ≤ 60; omega, fun z => absurd z (by show ¬ false = true; decide), hI⟩
      rw [b_101_6]
      simp (disch := omega) only [rd_I_mk, rd_R_mk, rd_L_mk, rd_D_mk, kd_mk, wr_I_mk, cp_mk, gd_true, bd_ret, bd_thr, vl_none, vl_some, iN_add, iN_mul, iN_sub, iN_lt, iN_eq, iN_n, iN_m1, iN_pred, vp_iN, K0_le, nr_b0, nr_b1, m1_lt, lt_m1, iN_ne_m1, m1_ne_iN, not_lt_z, true_and, and_true, and_self, or_true, true_or, or_false, false_or, if_true, if_false, ↓reduceIte, eq_self, up_at, up_a, up_k, cp_c, cp_b, Nat.zero_add, Nat.add_zero, Nat.sub_zero, Nat.le_refl, Nat.add_sub_cancel, fu_at, fu_ne, iN_nz, n10_f, n01_f, ofN, qq_at_100, k110b, Nat.lt_irrefl, Nat.not_lt_zero, ne_eq, not_false_eq_true, not_true_eq_false, k9', h3]
      rfl
    | succ m ih =>
      intro pos cs J ρ hm hJ hKJ hq h5 hp hcs hI
      have h3 := hcs.1
      have hlt : cs.length < 11 := by omega
      have k9' := (hq.2.2.1 p).trans k9
      obtain ⟨K, ρ', s1, s2, s3, s4, s5, s6, s7, s8, s9⟩ := c_readCommand (d := d) hJ hKJ h5 hp h3 hlt
      have hlk := lk_9 (T := T) (pos := pos)
      have hq2 := Cq_tr hq s2
      have k9'' := (hq2.2.2.1 p).trans k9
      have hSK : SC K ρ' p Z T := SC_Cq hJ s2 (fun a ha => s8 a (by omega) (by omega))
      have hKK : KC K ρ' := KC_Cq hKJ p70 s2 (fun a ha => s8 a (by omega) (by omega))
      have hIK : ∀ a, (a < p ∨ p + 16 ≤ a) → K a = I a := fun a ha => by rw [s8 a (by omega) (by omega)]; exact hI a ha
      rw [rdS]
      generalize hr : rdF T (frm (lk T pos 9).1) pos [] = r at *
      generalize (lk T pos 9).1 = k at *
      obtain ⟨ok, pos', ar⟩ := r
      dsimp only at *
      rw [b_101_6]
      cases ok with
      | false =>
        rw [b01_f] at s1
        rw [if_pos rfl]
        refine ⟨K, ρ', ?_, hSK, hKK, hq2, s5, by show pos' ≤ 60; omega, fun z => absurd z (by show ¬ false = true; decide), hIK⟩
        simp (disch := omega) only [rd_I_mk, rd_R_mk, rd_L_mk, rd_D_mk, kd_mk, wr_I_mk, cp_mk, gd_true, bd_ret, bd_thr, vl_none, vl_some, iN_add, iN_mul, iN_sub, iN_lt, iN_eq, iN_n, iN_m1, iN_pred, vp_iN, K0_le, nr_b0, nr_b1, m1_lt, lt_m1, iN_ne_m1, m1_ne_iN, not_lt_z, true_and, and_true, and_self, or_true, true_or, or_false, false_or, if_true, if_false, ↓reduceIte, eq_self, up_at, up_a, up_k, cp_c, cp_b, Nat.zero_add, Nat.add_zero, Nat.sub_zero, Nat.le_refl, Nat.add_sub_cancel, fu_at, fu_ne, iN_nz, n10_f, n01_f, ofN, qq_at_100, k110b, Nat.lt_irrefl, Nat.not_lt_zero, ne_eq, not_false_eq_true, not_true_eq_false, k9', h3, hlt, s1, b_101_12]
        rfl
      | true =>
        rw [b01_t] at s1
        rw [if_neg (show ¬ (true = false) by decide)]
        have hcs' : CS (up_2 K p 3 (iN (cs.length + 1))) ρ' p (cs ++ [(k, ar)]) := by
          refine ⟨by rw [up_at, List.length_append]; rfl, fun j hj => ?_⟩
          rw [List.length_append] at hj
          have hj : j < cs.length + 1 := hj
          by_cases z : j < cs.length
          · obtain ⟨y1, y2, y3⟩ := hcs.2 j z
            rw [List.getElem_append_left z]
            exact ⟨(s3 j (by omega)).trans y1, y2, fun i hi => by rw [up_c (by omega), s8 _ (by omega) (by omega)]; exact y3 i hi⟩
          · have z2 : j = cs.length := by omega
            subst z2
            rw [List.getElem_append_right (Nat.le_refl _)]
            simp only [Nat.sub_self, List.getElem_cons_zero]
            exact ⟨s4, hlk, fun i hi => by rw [up_c (by omega)]; exact s7 i hi⟩
        have hSU : SC (up_2 K p 3 (iN (cs.length + 1))) ρ' p Z T := SC_same hSK (fun a ha => up_c (by omega))
        have hKU : KC (up_2 K p 3 (iN (cs.length + 1))) ρ' := KC_same hKK (fun a ha => ⟨up_c (by omega), rfl, fun _ => rfl⟩)
        have hIU : ∀ a, (a < p ∨ p + 16 ≤ a) → up_2 K p 3 (iN (cs.length + 1)) a = I a := fun a ha => by rw [up_c (by omega)]; exact hIK a ha
        have u5 : up_2 K p 3 (iN (cs.length + 1)) p 5 = iN pos' := by rw [up_k (by omega)]; exact s5
        have q1 := c_length (d := d + 8) hSU.2.1
        have k2' := (hq2.2.2.1 (p + 1)).trans k2
        have s0' := (Cq_R hq2 (a := p) (k := 0) (by omega)).trans s0
        have hlen : (cs ++ [(k, ar)]).length = cs.length + 1 := by rw [List.length_append]; rfl
        by_cases z : pos' = T.length
        · rw [if_pos z]
          refine ⟨_, ρ', ?_, hSU, hKU, hq2, u5, by show pos' ≤ 60; omega, fun _ => ⟨hcs', by show (cs ++ [(k, ar)]).length ≤ 11; omega⟩, hIU⟩
          rw [z] at u5
          simp (disch := omega) only [rd_I_mk, rd_R_mk, rd_L_mk, rd_D_mk, kd_mk, wr_I_mk, cp_mk, gd_true, bd_ret, bd_thr, vl_none, vl_some, iN_add, iN_mul, iN_sub, iN_lt, iN_eq, iN_n, iN_m1, iN_pred, vp_iN, K0_le, nr_b0, nr_b1, m1_lt, lt_m1, iN_ne_m1, m1_ne_iN, not_lt_z, true_and, and_true, and_self, or_true, true_or, or_false, false_or, if_true, if_false, ↓reduceIte, eq_self, up_at, up_a, up_k, cp_c, cp_b, Nat.zero_add, Nat.add_zero, Nat.sub_zero, Nat.le_refl, Nat.add_sub_cancel, fu_at, fu_ne, iN_nz, n10_f, n01_f, ofN, qq_at_100, k110b, Nat.lt_irrefl, Nat.not_lt_zero, ne_eq, not_false_eq_true, not_true_eq_false, k9', h3, hlt, s1, b_101_12, k9'', s6, b_101_21, s0', k2', q1, u5, b_101_26]
          rfl
        · rw [if_neg z]
          obtain ⟨L, q2, q3, q4, q5⟩ := c_readSign (d := d + 4) hSU u5 (by omega) (ch := 59) (by omega)
          by_cases z2 : sg T pos' = 59
          · rw [decide_eq_true z2, b01_t] at q2
            rw [if_pos z2] at q3 ⊢
            have hp1 : pos' < T.length := sg_ne (by omega)
            have hL3 : CS L ρ' p (cs ++ [(k, ar)]) := ⟨(q4 3 (by omega)).trans hcs'.1, fun j hj => ⟨(hcs'.2 j hj).1, (hcs'.2 j hj).2.1, fun i hi => by rw [q5 _ (by omega)]; exact (hcs'.2 j hj).2.2 i hi⟩⟩
            obtain ⟨I', τ', t1, t2⟩ := ih (pos' + 1) (cs ++ [(k, ar)]) L ρ' (by omega) (SC_same hSU (fun a ha => q5 a (by omega))) (KC_same hKU (fun a ha => ⟨q5 a (by omega), rfl, fun _ => rfl⟩)) hq2 q3 hp1 hL3 (fun a ha => by rw [q5 a (by omega)]; exact hIU a ha)
            refine ⟨I', τ', ?_, t2⟩
            simp (disch := omega) only [rd_I_mk, rd_R_mk, rd_L_mk, rd_D_mk, kd_mk, wr_I_mk, cp_mk, gd_true, bd_ret, bd_thr, vl_none, vl_some, iN_add, iN_mul, iN_sub, iN_lt, iN_eq, iN_n, iN_m1, iN_pred, vp_iN, K0_le, nr_b0, nr_b1, m1_lt, lt_m1, iN_ne_m1, m1_ne_iN, not_lt_z, true_and, and_true, and_self, or_true, true_or, or_false, false_or, if_true, if_false, ↓reduceIte, eq_self, up_at, up_a, up_k, cp_c, cp_b, Nat.zero_add, Nat.add_zero, Nat.sub_zero, Nat.le_refl, Nat.add_sub_cancel, fu_at, fu_ne, iN_nz, n10_f, n01_f, ofN, qq_at_100, k110b, Nat.lt_irrefl, Nat.not_lt_zero, ne_eq, not_false_eq_true, not_true_eq_false, k9', h3, hlt, s1, b_101_12, k9'', s6, b_101_21, s0', k2', q1, u5, b_101_26, z, q2, b_101_32]
            exact t1
          · rw [decide_eq_false z2, b01_f] at q2
            rw [if_neg z2] at q3 ⊢
            refine ⟨L, ρ', ?_, SC_same hSU (fun a ha => q5 a (by omega)), KC_same hKU (fun a ha => ⟨q5 a (by omega), rfl, fun _ => rfl⟩), hq2, q3, by show pos' ≤ 60; omega, fun y => absurd y (by show ¬ false = true; decide), fun a ha => by rw [q5 a (by omega)]; exact hIU a ha⟩
            simp (disch := omega) only [rd_I_mk, rd_R_mk, rd_L_mk, rd_D_mk, kd_mk, wr_I_mk, cp_mk, gd_true, bd_ret, bd_thr, vl_none, vl_some, iN_add, iN_mul, iN_sub, iN_lt, iN_eq, iN_n, iN_m1, iN_pred, vp_iN, K0_le, nr_b0, nr_b1, m1_lt, lt_m1, iN_ne_m1, m1_ne_iN, not_lt_z, true_and, and_true, and_self, or_true, true_or, or_false, false_or, if_true, if_false, ↓reduceIte, eq_self, up_at, up_a, up_k, cp_c, cp_b, Nat.zero_add, Nat.add_zero, Nat.sub_zero, Nat.le_refl, Nat.add_sub_cancel, fu_at, fu_ne, iN_nz, n10_f, n01_f, ofN, qq_at_100, k110b, Nat.lt_irrefl, Nat.not_lt_zero, ne_eq, not_false_eq_true, not_true_eq_false, k9', h3, hlt, s1, b_101_12, k9'', s6, b_101_21, s0', k2', q1, u5, b_101_26, z, q2, b_101_32]
            rfl
  have hI2 : ∀ a, (a < p ∨ p + 16 ≤ a) → up_2 (up_2 I p 5 (iN 0)) p 3 (iN 0) a = I a := fun a ha => by rw [up_c (by omega), up_c (by omega)]
  obtain ⟨I', τ', t1, t2⟩ := lp 11 0 [] (up_2 (up_2 I p 5 (iN 0)) p 3 (iN 0)) τ rfl (SC_same h (fun a ha => by rw [up_c (by omega), up_c (by omega)])) (KC_same hK (fun a ha => ⟨hI2 a (by omega), rfl, fun _ => rfl⟩)) Cq_rf (by rw [up_k (by omega), up_at]) (Nat.zero_le _) ⟨up_at, fun j hj => absurd hj (Nat.not_lt_zero _)⟩ hI2
  refine ⟨I', τ', ?_, t2⟩
  rw [c_101, b_101_0]
  simp (disch := omega) only [rd_I_mk, rd_R_mk, rd_L_mk, rd_D_mk, kd_mk, wr_I_mk, cp_mk, gd_true, bd_ret, bd_thr, vl_none, vl_some, iN_add, iN_mul, iN_sub, iN_lt, iN_eq, iN_n, iN_m1, iN_pred, vp_iN, K0_le, nr_b0, nr_b1, m1_lt, lt_m1, iN_ne_m1, m1_ne_iN, not_lt_z, true_and, and_true, and_self, or_true, true_or, or_false, false_or, if_true, if_false, ↓reduceIte, eq_self, up_at, up_a, up_k, cp_c, cp_b, Nat.zero_add, Nat.add_zero, Nat.sub_zero, Nat.le_refl, Nat.add_sub_cancel, fu_at, fu_ne, iN_nz, n10_f, n01_f, ofN, qq_at_100, k110b, Nat.lt_irrefl, Nat.not_lt_zero, ne_eq, not_false_eq_true, not_true_eq_false, k9, b_101_3]
  exact t1
end RC
