/-! WRITS: what they are, the class's methods -/
def w0 : sW := (0, 0, 0, 0, 0, 0)
def ug (U : sU) (k : Nat) : sW := U.1.getD k w0
def un (U : sU) : Nat := U.1.length
def unx (U : sU) : Nat := U.2
/-- a cause as the class has it -/
def caC (c : Nat) : Int32 := if c = 0 then m1 else iN (c - 1)
theorem caC_0 : caC 0 = m1 := rfl
theorem caC_s (c : Nat) : caC (c + 1) = iN c := by unfold caC; rw [if_neg (by omega), Nat.add_sub_cancel]
def R_U (I : qq_I) (p : Nat) (U : sU) : Prop := I p 0 = iN (un U) ∧ I p 1 = iN (unx U) ∧ (∀ k, k < un U → I (p + 1) k = iN (w_id (ug U k))) ∧ (∀ k, k < un U → I (p + 2) k = iN (w_of (ug U k))) ∧ (∀ k, k < un U → I (p + 3) k = iN (w_la (ug U k))) ∧
  (∀ k, k < un U → I (p + 4) k = iN (w_ba (ug U k))) ∧ (∀ k, k < un U → I (p + 5) k = caC (w_ca (ug U k))) ∧ (∀ k, k < un U → I (p + 6) k = iN (w_pd (ug U k)))
theorem R_U_same {I I' : qq_I} {p : Nat} {U : sU} (h : R_U I p U) (hs : ∀ a, p ≤ a → a < p + 7 → I' a = I a) : R_U I' p U := by
  obtain ⟨h1, h2, h3, h4, h5, h6, h7, h8⟩ := h
  refine ⟨by rw [hs p (by omega) (by omega)]; exact h1, by rw [hs p (by omega) (by omega)]; exact h2, fun k hk => by rw [hs _ (by omega) (by omega)]; exact h3 k hk, fun k hk => by rw [hs _ (by omega) (by omega)]; exact h4 k hk, fun k hk => by rw [hs _ (by omega) (by omega)]; exact h5 k hk, fun k hk => by rw [hs _ (by omega) (by omega)]; exact h6 k hk, fun k hk => by rw [hs _ (by omega) (by omega)]; exact h7 k hk, fun k hk => by rw [hs _ (by omega) (by omega)]; exact h8 k hk⟩
/-- the parent of a writ by its place -/
def fiX (U : sU) (x : Int32) : Option Nat := ff (fun k => iN (w_id (ug U k)) == x) 0 (un U)
def fi (U : sU) (n : Nat) : Option Nat := ff (fun k => w_id (ug U k) == n) 0 (un U)
def pa (U : sU) (k : Nat) : Option Nat := if w_ca (ug U k) = 0 then none else fi U (w_ca (ug U k) - 1)
/-- writs as they must be -/
def wU (U : sU) : Prop := un U ≤ 8 ∧ unx U < 1000000 ∧ (∀ i j, i < j → j < un U → w_id (ug U i) < w_id (ug U j)) ∧
  (∀ k, k < un U → w_id (ug U k) < unx U ∧ w_of (ug U k) < 6 ∧ 1 ≤ w_ba (ug U k) ∧ w_ba (ug U k) ≤ 60 ∧ w_pd (ug U k) ≤ 1 ∧ w_la (ug U k) < 1000000 ∧
    (w_ca (ug U k) = 0 ∨ ∃ j, j < k ∧ w_ca (ug U k) = w_id (ug U j) + 1))
theorem ff_cong {f g : Nat → Bool} : ∀ (n i : Nat), (∀ k, i ≤ k → k < i + n → f k = g k) → ff f i n = ff g i n := by
  intro n
  induction n with
  | zero => intro i _; rfl
  | succ n ih =>
    intro i h
    rw [ff, ff, h i (Nat.le_refl _) (by omega), ih (i + 1) (fun k h1 h2 => h k (by omega) (by omega))]
theorem fiX_iN {U : sU} (hw : wU U) {n : Nat} (hn : n < 2147483648) : fiX U (iN n) = fi U n := by
  refine ff_cong _ _ (fun k h1 h2 => ?_)
  have h := (hw.2.2.2 k (by omega)).1
  have hx := hw.2.1
  rw [Bool.eq_iff_iff, beq_iff_eq, beq_iff_eq, iN_eq (by omega) hn]
theorem fiX_m1 {U : sU} (hw : wU U) : fiX U m1 = none := by
  refine (ff_none _ _).mpr (fun k h1 h2 => ?_)
  have h := (hw.2.2.2 k (by omega)).1
  have hx := hw.2.1
  rw [beq_iff_eq, iN_ne_m1 (by omega)]
  exact id
theorem fiX_ca {U : sU} (hw : wU U) {k : Nat} (hk : k < un U) : fiX U (caC (w_ca (ug U k))) = pa U k := by
  have h := hw.2.2.2 k hk
  have hx := hw.2.1
  unfold pa
  by_cases q : w_ca (ug U k) = 0
  · rw [if_pos q, q, caC_0, fiX_m1 hw]
  · rw [if_neg q]
    obtain ⟨c, hc⟩ : ∃ c, w_ca (ug U k) = c + 1 := ⟨w_ca (ug U k) - 1, by omega⟩
    rw [hc, caC_s, Nat.add_sub_cancel]
    refine fiX_iN hw ?_
    rcases h.2.2.2.2.2.2 with h | ⟨j, hj, h⟩
    · omega
    · have := (hw.2.2.2 j (by omega)).1
      omega
theorem fi_at {U : sU} (hw : wU U) {k : Nat} (hk : k < un U) : fi U (w_id (ug U k)) = some k := by
  refine ff_is hk (beq_self_eq_true _) (fun j hj h => ?_)
  have := hw.2.2.1 j k hj hk
  rw [beq_iff_eq] at h
  omega
theorem pa_lt {U : sU} (hw : wU U) {k j : Nat} (hk : k < un U) (h : pa U k = some j) : j < k ∧ w_ca (ug U k) = w_id (ug U j) + 1 := by
  unfold pa at h
  split at h
  · cases h
  · rename_i hc
    rcases (hw.2.2.2 k hk).2.2.2.2.2.2 with q | ⟨i, hi, q⟩
    · exact absurd q hc
    · rw [q, Nat.add_sub_cancel, fi_at hw (by omega)] at h
      cases h
      exact ⟨hi, q⟩
theorem pa_none {U : sU} (hw : wU U) {k : Nat} (hk : k < un U) : pa U k = none ↔ w_ca (ug U k) = 0 := by
  constructor
  · intro h
    rcases (hw.2.2.2 k hk).2.2.2.2.2.2 with q | ⟨i, hi, q⟩
    · exact q
    · unfold pa at h
      rw [if_neg (by omega), q, Nat.add_sub_cancel, fi_at hw (by omega)] at h
      cases h
  · intro h
    unfold pa
    rw [if_pos h]
theorem fiX_lt {U : sU} {x : Int32} {k : Nat} (h : fiX U x = some k) : k < un U := by
  have := (ff_some _ _ _ h).2.1; omega
theorem fi_lt {U : sU} {n k : Nat} (h : fi U n = some k) : k < un U ∧ w_id (ug U k) = n := by
  obtain ⟨-, h1, h2, -⟩ := ff_some _ _ _ h
  exact ⟨by omega, beq_iff_eq.mp h2⟩
section WR
variable {d : Nat} {I : qq_I} {τ : qq_R} {p : Nat} {U : sU}
theorem c_isFull (hL : L_W τ p) (hR : R_U I p U) (hw : wU U) : CC d 121 [.ref p] (I, τ) = some (.inl (some (.int (if un U < 8 then iN 0 else iN 1))), (I, τ)) := by
  obtain ⟨hp, k0, -⟩ := hL
  have w1 := hw.1
  rw [c_121, b_121_0]
  by_cases h : un U < 8
  · simp (disch := omega) only [rd_I_mk, rd_R_mk, rd_L_mk, rd_D_mk, kd_mk, wr_I_mk, cp_mk, gd_true, bd_ret, bd_thr, vl_none, vl_some, iN_add, iN_mul, iN_sub, iN_lt, iN_eq, iN_n, iN_m1, iN_pred, vp_iN, K0_le, nr_b0, nr_b1, m1_lt, lt_m1, iN_ne_m1, m1_ne_iN, not_lt_z, true_and, and_true, and_self, or_true, true_or, or_false, false_or, if_true, if_false, ↓reduceIte, eq_self, up_at, up_a, up_k, cp_c, cp_b, Nat.zero_add, Nat.add_zero, Nat.sub_zero, Nat.le_refl, Nat.add_sub_cancel, fu_at, fu_ne, iN_nz, n10_f, n01_f, ofN, qq_at_100, k110b, Nat.lt_irrefl, Nat.not_lt_zero, ne_eq, not_false_eq_true, not_true_eq_false, k0, hR.1, h, b_121_7]
  · simp (disch := omega) only [rd_I_mk, rd_R_mk, rd_L_mk, rd_D_mk, kd_mk, wr_I_mk, cp_mk, gd_true, bd_ret, bd_thr, vl_none, vl_some, iN_add, iN_mul, iN_sub, iN_lt, iN_eq, iN_n, iN_m1, iN_pred, vp_iN, K0_le, nr_b0, nr_b1, m1_lt, lt_m1, iN_ne_m1, m1_ne_iN, not_lt_z, true_and, and_true, and_self, or_true, true_or, or_false, false_or, if_true, if_false, ↓reduceIte, eq_self, up_at, up_a, up_k, cp_c, cp_b, Nat.zero_add, Nat.add_zero, Nat.sub_zero, Nat.le_refl, Nat.add_sub_cancel, fu_at, fu_ne, iN_nz, n10_f, n01_f, ofN, qq_at_100, k110b, Nat.lt_irrefl, Nat.not_lt_zero, ne_eq, not_false_eq_true, not_true_eq_false, k0, hR.1, h, b_121_7]
theorem c_find (hL : L_W τ p) (hR : R_U I p U) (hw : wU U) (x : Int32) : CC d 122 [.ref p, .int x] (I, τ) = some (.inl (some (.int (oN (fiX U x)))), (I, τ)) := by
  obtain ⟨hp, k0, k2, k3, k4, k5, k6, k7, q1, q2, q3, q4, q5, q6⟩ := hL
  obtain ⟨r0, r1, r2, -⟩ := hR
  have w1 := hw.1
  have lp : ∀ n k, k + n = un U → RR d 122 2 [some (.ref p), some (.int x), some (.int (iN k))] [] (I, τ) = some (.inl (some (.int (oN (ff (fun k => iN (w_id (ug U k)) == x) k n)))), (I, τ)) := by
    intro n
    induction n with
    | zero =>
      intro k hk
      rw [b_122_2]
      have e : ¬ k < un U := by omega
      simp (disch := omega) only [rd_I_mk, rd_R_mk, rd_L_mk, rd_D_mk, kd_mk, wr_I_mk, cp_mk, gd_true, bd_ret, bd_thr, vl_none, vl_some, iN_add, iN_mul, iN_sub, iN_lt, iN_eq, iN_n, iN_m1, iN_pred, vp_iN, K0_le, nr_b0, nr_b1, m1_lt, lt_m1, iN_ne_m1, m1_ne_iN, not_lt_z, true_and, and_true, and_self, or_true, true_or, or_false, false_or, if_true, if_false, ↓reduceIte, eq_self, up_at, up_a, up_k, cp_c, cp_b, Nat.zero_add, Nat.add_zero, Nat.sub_zero, Nat.le_refl, Nat.add_sub_cancel, fu_at, fu_ne, iN_nz, n10_f, n01_f, ofN, qq_at_100, k110b, Nat.lt_irrefl, Nat.not_lt_zero, ne_eq, not_false_eq_true, not_true_eq_false, k0, r0, e, ff, oN]
    | succ n ih =>
      intro k hk
      rw [b_122_2]
      have e : k < un U := by omega
      simp (disch := omega) only [rd_I_mk, rd_R_mk, rd_L_mk, rd_D_mk, kd_mk, wr_I_mk, cp_mk, gd_true, bd_ret, bd_thr, vl_none, vl_some, iN_add, iN_mul, iN_sub, iN_lt, iN_eq, iN_n, iN_m1, iN_pred, vp_iN, K0_le, nr_b0, nr_b1, m1_lt, lt_m1, iN_ne_m1, m1_ne_iN, not_lt_z, true_and, and_true, and_self, or_true, true_or, or_false, false_or, if_true, if_false, ↓reduceIte, eq_self, up_at, up_a, up_k, cp_c, cp_b, Nat.zero_add, Nat.add_zero, Nat.sub_zero, Nat.le_refl, Nat.add_sub_cancel, fu_at, fu_ne, iN_nz, n10_f, n01_f, ofN, qq_at_100, k110b, Nat.lt_irrefl, Nat.not_lt_zero, ne_eq, not_false_eq_true, not_true_eq_false, k0, r0, e, k2, q1, r2, ff]
      by_cases hf : iN (w_id (ug U k)) = x
      · rw [if_pos hf, if_pos (beq_iff_eq.mpr hf)]; rfl
      · rw [if_neg hf, if_neg (fun z => hf (beq_iff_eq.mp z))]
        exact ih (k + 1) (by omega)
  rw [c_122, b_122_0]
  exact lp _ 0 (by omega)
def su_open (U : sU) (of la ba ca : Nat) : sU := (U.1 ++ [(unx U, of, la, ba, 0, ca)], unx U + 1)
theorem ug_open {U : sU} {of la ba ca k : Nat} : ug (su_open U of la ba ca) k = if k < un U then ug U k else if k = un U then (unx U, of, la, ba, 0, ca) else w0 := by
  unfold ug su_open un
  rw [List.getD_eq_getElem?_getD, List.getD_eq_getElem?_getD]
  by_cases h : k < U.1.length
  · rw [if_pos h, List.getElem?_append_left h]
  · rw [if_neg h, List.getElem?_append_right (by omega)]
    by_cases h2 : k = U.1.length
    · rw [if_pos h2, h2, Nat.sub_self]; rfl
    · rw [if_neg h2, List.getElem?_eq_none (by simp; omega)]; rfl
theorem un_open {U : sU} {of la ba ca : Nat} : un (su_open U of la ba ca) = un U + 1 := by
  unfold un su_open; rw [List.length_append]; rfl
theorem c_open (hL : L_W τ p) (hR : R_U I p U) (hw : wU U) (hn : un U < 8) {of la ba ca : Nat} (hof : of < 6) (hla : la < 1000000) (hba : ba ≤ 60) :
    ∃ I', CC d 123 [.ref p, .int (iN of), .int (iN la), .int (iN ba), .int (caC ca)] (I, τ) = some (.inl (some (.int (iN (unx U)))), (I', τ)) ∧ R_U I' p (su_open U of la ba ca) ∧ Fr p 7 I I' := by
  obtain ⟨hp, k0, k2, k3, k4, k5, k6, k7, q1, q2, q3, q4, q5, q6⟩ := hL
  obtain ⟨r0, r1, r2, r3, r4, r5, r6, r7⟩ := hR
  have w2 := hw.2.1
  refine ⟨up_2 (up_2 (up_2 (up_2 (up_2 (up_2 (up_2 (up_2 I (p + 1) (un U) (iN (unx U))) (p + 2) (un U) (iN of)) (p + 3) (un U) (iN la)) (p + 4) (un U) (iN ba)) (p + 5) (un U) (caC ca)) (p + 6) (un U) (iN 0)) p 0 (iN (un U + 1))) p 1 (iN (unx U + 1)), ?_, ?_, ?_⟩
  · rw [c_123]
    simp (disch := omega) only [rd_I_mk, rd_R_mk, rd_L_mk, rd_D_mk, kd_mk, wr_I_mk, cp_mk, gd_true, bd_ret, bd_thr, vl_none, vl_some, iN_add, iN_mul, iN_sub, iN_lt, iN_eq, iN_n, iN_m1, iN_pred, vp_iN, K0_le, nr_b0, nr_b1, m1_lt, lt_m1, iN_ne_m1, m1_ne_iN, not_lt_z, true_and, and_true, and_self, or_true, true_or, or_false, false_or, if_true, if_false, ↓reduceIte, eq_self, up_at, up_a, up_k, cp_c, cp_b, Nat.zero_add, Nat.add_zero, Nat.sub_zero, Nat.le_refl, Nat.add_sub_cancel, fu_at, fu_ne, iN_nz, n10_f, n01_f, ofN, qq_at_100, k110b, Nat.lt_irrefl, Nat.not_lt_zero, ne_eq, not_false_eq_true, not_true_eq_false, b_123_0, b_123_9, b_123_15, b_123_21, b_123_27, b_123_33, b_123_39, b_123_45, b_123_51, k0, k2, k3, k4, k5, k6, k7, q1, q2, q3, q4, q5, q6, r0, r1, vn_b0]
  · refine ⟨?_, ?_, fun k hk => ?_, fun k hk => ?_, fun k hk => ?_, fun k hk => ?_, fun k hk => ?_, fun k hk => ?_⟩
    · rw [un_open]; simp (disch := omega) only [rd_I_mk, rd_R_mk, rd_L_mk, rd_D_mk, kd_mk, wr_I_mk, cp_mk, gd_true, bd_ret, bd_thr, vl_none, vl_some, iN_add, iN_mul, iN_sub, iN_lt, iN_eq, iN_n, iN_m1, iN_pred, vp_iN, K0_le, nr_b0, nr_b1, m1_lt, lt_m1, iN_ne_m1, m1_ne_iN, not_lt_z, true_and, and_true, and_self, or_true, true_or, or_false, false_or, if_true, if_false, ↓reduceIte, eq_self, up_at, up_a, up_k, cp_c, cp_b, Nat.zero_add, Nat.add_zero, Nat.sub_zero, Nat.le_refl, Nat.add_sub_cancel, fu_at, fu_ne, iN_nz, n10_f, n01_f, ofN, qq_at_100, k110b, Nat.lt_irrefl, Nat.not_lt_zero, ne_eq, not_false_eq_true, not_true_eq_false]
    · show _ = iN (unx U + 1)
      simp (disch := omega) only [rd_I_mk, rd_R_mk, rd_L_mk, rd_D_mk, kd_mk, wr_I_mk, cp_mk, gd_true, bd_ret, bd_thr, vl_none, vl_some, iN_add, iN_mul, iN_sub, iN_lt, iN_eq, iN_n, iN_m1, iN_pred, vp_iN, K0_le, nr_b0, nr_b1, m1_lt, lt_m1, iN_ne_m1, m1_ne_iN, not_lt_z, true_and, and_true, and_self, or_true, true_or, or_false, false_or, if_true, if_false, ↓reduceIte, eq_self, up_at, up_a, up_k, cp_c, cp_b, Nat.zero_add, Nat.add_zero, Nat.sub_zero, Nat.le_refl, Nat.add_sub_cancel, fu_at, fu_ne, iN_nz, n10_f, n01_f, ofN, qq_at_100, k110b, Nat.lt_irrefl, Nat.not_lt_zero, ne_eq, not_false_eq_true, not_true_eq_false]
    all_goals
      rw [un_open] at hk
      rw [ug_open]
      by_cases h : k < un U
      · rw [if_pos h]
        simp (disch := omega) only [rd_I_mk, rd_R_mk, rd_L_mk, rd_D_mk, kd_mk, wr_I_mk, cp_mk, gd_true, bd_ret, bd_thr, vl_none, vl_some, iN_add, iN_mul, iN_sub, iN_lt, iN_eq, iN_n, iN_m1, iN_pred, vp_iN, K0_le, nr_b0, nr_b1, m1_lt, lt_m1, iN_ne_m1, m1_ne_iN, not_lt_z, true_and, and_true, and_self, or_true, true_or, or_false, false_or, if_true, if_false, ↓reduceIte, eq_self, up_at, up_a, up_k, cp_c, cp_b, Nat.zero_add, Nat.add_zero, Nat.sub_zero, Nat.le_refl, Nat.add_sub_cancel, fu_at, fu_ne, iN_nz, n10_f, n01_f, ofN, qq_at_100, k110b, Nat.lt_irrefl, Nat.not_lt_zero, ne_eq, not_false_eq_true, not_true_eq_false, r2, r3, r4, r5, r6, r7]
      · rw [if_neg h, if_pos (by omega), show k = un U by omega]
        simp (disch := omega) only [rd_I_mk, rd_R_mk, rd_L_mk, rd_D_mk, kd_mk, wr_I_mk, cp_mk, gd_true, bd_ret, bd_thr, vl_none, vl_some, iN_add, iN_mul, iN_sub, iN_lt, iN_eq, iN_n, iN_m1, iN_pred, vp_iN, K0_le, nr_b0, nr_b1, m1_lt, lt_m1, iN_ne_m1, m1_ne_iN, not_lt_z, true_and, and_true, and_self, or_true, true_or, or_false, false_or, if_true, if_false, ↓reduceIte, eq_self, up_at, up_a, up_k, cp_c, cp_b, Nat.zero_add, Nat.add_zero, Nat.sub_zero, Nat.le_refl, Nat.add_sub_cancel, fu_at, fu_ne, iN_nz, n10_f, n01_f, ofN, qq_at_100, k110b, Nat.lt_irrefl, Nat.not_lt_zero, ne_eq, not_false_eq_true, not_true_eq_false]
        rfl
  · exact Fr_tr (Fr_up (by omega)) (Fr_tr (Fr_up (by omega)) (Fr_tr (Fr_up (by omega)) (Fr_tr (Fr_up (by omega)) (Fr_tr (Fr_up (by omega)) (Fr_tr (Fr_up (by omega)) (Fr_tr (Fr_up (by omega)) (Fr_up (by omega))))))))
/-- a cause that is gone -/
def dc (n : Nat) (w : sW) : sW := (w_id w, w_of w, w_la w, w_ba w, w_pd w, if w_ca w = n + 1 then 0 else w_ca w)
def su_close (U : sU) (k : Nat) : sU := ((U.1.eraseIdx k).map (dc (w_id (ug U k))), unx U)
theorem un_close {U : sU} {k : Nat} (hk : k < un U) : un (su_close U k) = un U - 1 := by
  unfold un su_close at *
  rw [List.length_map, List.length_eraseIdx, if_pos hk]
theorem ug_close {U : sU} {k i : Nat} (hk : k < un U) (hi : i < un U - 1) : ug (su_close U k) i = dc (w_id (ug U k)) (ug U (if i < k then i else i + 1)) := by
  have h1 : i < (U.1.eraseIdx k).length := by rw [List.length_eraseIdx, if_pos (show k < U.1.length from hk)]; exact hi
  unfold su_close
  show (List.map (dc (w_id (ug U k))) (U.1.eraseIdx k)).getD i w0 = _
  rw [List.getD_eq_getElem?_getD, List.getElem?_map, List.getElem?_eraseIdx]
  unfold ug
  rw [List.getD_eq_getElem?_getD (l := U.1) (i := if i < k then i else i + 1)]
  unfold un at hi
  by_cases h : i < k
  · rw [if_pos h, if_pos h, List.getElem?_eq_getElem (by omega)]; rfl
  · rw [if_neg h, if_neg h, List.getElem?_eq_getElem (by omega)]; rfl
theorem c_dropCause (hL : L_W τ p) {n : Nat} (h0 : I p 0 = iN n) (hn : n ≤ 8) (x : Int32) : ∃ I', CC d 125 [.ref p, .int x] (I, τ) = some (.inl none, (I', τ)) ∧ (∀ a, a ≠ p + 5 → I' a = I a) ∧ (∀ k, k < n → I' (p + 5) k = if I (p + 5) k = x then m1 else I (p + 5) k) := by
  obtain ⟨hp, k0, k2, k3, k4, k5, k6, k7, q1, q2, q3, q4, q5, q6⟩ := hL
  have lp : ∀ m k (J : qq_I), k + m = n → (∀ a, a ≠ p + 5 → J a = I a) → (∀ i, i < k → J (p + 5) i = if I (p + 5) i = x then m1 else I (p + 5) i) → (∀ i, k ≤ i → i < n → J (p + 5) i = I (p + 5) i) →
      ∃ I', RR d 125 2 [some (.ref p), some (.int x), some (.int (iN k))] [] (J, τ) = some (.inl none, (I', τ)) ∧ (∀ a, a ≠ p + 5 → I' a = I a) ∧ (∀ k, k < n → I' (p + 5) k = if I (p + 5) k = x then m1 else I (p + 5) k) := by
    intro m
    induction m with
    | zero =>
      intro k J hk g1 g2 g3
      refine ⟨J, ?_, g1, fun i hi => g2 i (by omega)⟩
      rw [b_125_2]
      have e : ¬ k < n := by omega
      have e0 := g1 p (by omega)
      simp (disch := omega) only [rd_I_mk, rd_R_mk, rd_L_mk, rd_D_mk, kd_mk, wr_I_mk, cp_mk, gd_true, bd_ret, bd_thr, vl_none, vl_some, iN_add, iN_mul, iN_sub, iN_lt, iN_eq, iN_n, iN_m1, iN_pred, vp_iN, K0_le, nr_b0, nr_b1, m1_lt, lt_m1, iN_ne_m1, m1_ne_iN, not_lt_z, true_and, and_true, and_self, or_true, true_or, or_false, false_or, if_true, if_false, ↓reduceIte, eq_self, up_at, up_a, up_k, cp_c, cp_b, Nat.zero_add, Nat.add_zero, Nat.sub_zero, Nat.le_refl, Nat.add_sub_cancel, fu_at, fu_ne, iN_nz, n10_f, n01_f, ofN, qq_at_100, k110b, Nat.lt_irrefl, Nat.not_lt_zero, ne_eq, not_false_eq_true, not_true_eq_false, k0, e0, h0, e]
    | succ m ih =>
      intro k J hk g1 g2 g3
      rw [b_125_2]
      have e : k < n := by omega
      have e0 := g1 p (by omega)
      have e1 := g3 k (Nat.le_refl _) e
      by_cases hx : I (p + 5) k = x
      · simp (disch := omega) only [rd_I_mk, rd_R_mk, rd_L_mk, rd_D_mk, kd_mk, wr_I_mk, cp_mk, gd_true, bd_ret, bd_thr, vl_none, vl_some, iN_add, iN_mul, iN_sub, iN_lt, iN_eq, iN_n, iN_m1, iN_pred, vp_iN, K0_le, nr_b0, nr_b1, m1_lt, lt_m1, iN_ne_m1, m1_ne_iN, not_lt_z, true_and, and_true, and_self, or_true, true_or, or_false, false_or, if_true, if_false, ↓reduceIte, eq_self, up_at, up_a, up_k, cp_c, cp_b, Nat.zero_add, Nat.add_zero, Nat.sub_zero, Nat.le_refl, Nat.add_sub_cancel, fu_at, fu_ne, iN_nz, n10_f, n01_f, ofN, qq_at_100, k110b, Nat.lt_irrefl, Nat.not_lt_zero, ne_eq, not_false_eq_true, not_true_eq_false, k0, e0, h0, e, k6, q5, e1, hx, b_125_17]
        refine ih (k + 1) _ (by omega) (fun a ha => ?_) (fun i hi => ?_) (fun i hi1 hi2 => ?_)
        · rw [up_c ha]; exact g1 a ha
        · by_cases ei : i = k
          · rw [ei, up_at, if_pos hx]
          · rw [up_k ei]; exact g2 i (by omega)
        · rw [up_k (by omega)]; exact g3 i (by omega) hi2
      · simp (disch := omega) only [rd_I_mk, rd_R_mk, rd_L_mk, rd_D_mk, kd_mk, wr_I_mk, cp_mk, gd_true, bd_ret, bd_thr, vl_none, vl_some, iN_add, iN_mul, iN_sub, iN_lt, iN_eq, iN_n, iN_m1, iN_pred, vp_iN, K0_le, nr_b0, nr_b1, m1_lt, lt_m1, iN_ne_m1, m1_ne_iN, not_lt_z, true_and, and_true, and_self, or_true, true_or, or_false, false_or, if_true, if_false, ↓reduceIte, eq_self, up_at, up_a, up_k, cp_c, cp_b, Nat.zero_add, Nat.add_zero, Nat.sub_zero, Nat.le_refl, Nat.add_sub_cancel, fu_at, fu_ne, iN_nz, n10_f, n01_f, ofN, qq_at_100, k110b, Nat.lt_irrefl, Nat.not_lt_zero, ne_eq, not_false_eq_true, not_true_eq_false, k0, e0, h0, e, k6, q5, e1, hx, b_125_17]
        refine ih (k + 1) _ (by omega) g1 (fun i hi => ?_) (fun i hi1 hi2 => g3 i (by omega) hi2)
        by_cases ei : i = k
        · rw [ei, if_neg hx, e1]
        · exact g2 i (by omega)
  rw [c_125, b_125_0]
  exact lp n 0 I (by omega) (fun _ _ => rfl) (fun i hi => by omega) (fun _ _ _ => rfl)
theorem vn_pd {n : Nat} (h : n ≤ 1) : vp_nar .boolean (iN n) = iN n := by
  rcases (show n = 0 ∨ n = 1 by omega) with rfl | rfl
  · exact vn_b0
  · exact vn_b1
theorem c_close (hL : L_W τ p) (hR : R_U I p U) (hw : wU U) {k : Nat} (hk : k < un U) : ∃ I', CC (d + 1) 124 [.ref p, .int (iN k)] (I, τ) = some (.inl none, (I', τ)) ∧ R_U I' p (su_close U k) ∧ Fr p 7 I I' := by
  have hL0 := hL
  obtain ⟨hp, k0, k2, k3, k4, k5, k6, k7, q1, q2, q3, q4, q5, q6⟩ := hL
  obtain ⟨r0, r1, r2, r3, r4, r5, r6, r7⟩ := hR
  have w1 := hw.1
  have w2 := hw.2.1
  have w4 := hw.2.2.2
  have lp : ∀ m a (J : qq_I), a + 1 + m = un U → k ≤ a → (∀ c, (c < p + 1 ∨ p + 6 < c) → J c = I c) → (∀ c i, 1 ≤ c → c ≤ 6 → i < un U → J (p + c) i = if k ≤ i ∧ i < a then I (p + c) (i + 1) else I (p + c) i) →
      ∃ J', RR (d + 1) 124 7 [some (.ref p), some (.int (iN k)), some (.int (iN (w_id (ug U k)))), some (.int (iN a))] [] (J, τ) = RR (d + 1) 124 81 [some (.ref p), some (.int (iN k)), some (.int (iN (w_id (ug U k)))), some (.int (iN (un U - 1)))] [] (up_2 J' p 0 (iN (un U - 1)), τ) ∧
        (∀ c, (c < p + 1 ∨ p + 6 < c) → J' c = I c) ∧ (∀ c i, 1 ≤ c → c ≤ 6 → i < un U - 1 → J' (p + c) i = if k ≤ i then I (p + c) (i + 1) else I (p + c) i) := by
    intro m
    induction m with
    | zero =>
      intro a J ha hka g1 g2
      refine ⟨J, ?_, g1, fun c i h1 h2 h3 => ?_⟩
      · rw [b_124_7]
        have e : ¬ a + 1 < un U := by omega
        have e0 := g1 p (by omega)
        simp (disch := omega) only [rd_I_mk, rd_R_mk, rd_L_mk, rd_D_mk, kd_mk, wr_I_mk, cp_mk, gd_true, bd_ret, bd_thr, vl_none, vl_some, iN_add, iN_mul, iN_sub, iN_lt, iN_eq, iN_n, iN_m1, iN_pred, vp_iN, K0_le, nr_b0, nr_b1, m1_lt, lt_m1, iN_ne_m1, m1_ne_iN, not_lt_z, true_and, and_true, and_self, or_true, true_or, or_false, false_or, if_true, if_false, ↓reduceIte, eq_self, up_at, up_a, up_k, cp_c, cp_b, Nat.zero_add, Nat.add_zero, Nat.sub_zero, Nat.le_refl, Nat.add_sub_cancel, fu_at, fu_ne, iN_nz, n10_f, n01_f, ofN, qq_at_100, k110b, Nat.lt_irrefl, Nat.not_lt_zero, ne_eq, not_false_eq_true, not_true_eq_false, k0, e0, r0, e]
        rw [show a = un U - 1 by omega]
      · rw [g2 c i h1 h2 (by omega)]
        by_cases q : k ≤ i
        · rw [if_pos q, if_pos ⟨q, by omega⟩]
        · rw [if_neg q, if_neg (fun z => q z.1)]
    | succ m ih =>
      intro a J ha hka g1 g2
      rw [b_124_7]
      have e : a + 1 < un U := by omega
      have e0 := g1 p (by omega)
      have f : ∀ c, 1 ≤ c → c ≤ 6 → J (p + c) (a + 1) = I (p + c) (a + 1) := fun c h1 h2 => by
        rw [g2 c (a + 1) h1 h2 (by omega), if_neg (by omega)]
      have f1 := f 1 (by omega) (by omega)
      have f2 := f 2 (by omega) (by omega)
      have f3 := f 3 (by omega) (by omega)
      have f4 := f 4 (by omega) (by omega)
      have f5 := f 5 (by omega) (by omega)
      have f6 := f 6 (by omega) (by omega)
      have f7 : vp_nar .boolean (iN (w_pd (ug U (a + 1)))) = iN (w_pd (ug U (a + 1))) := vn_pd (w4 (a + 1) e).2.2.2.2.1
      simp (disch := omega) only [rd_I_mk, rd_R_mk, rd_L_mk, rd_D_mk, kd_mk, wr_I_mk, cp_mk, gd_true, bd_ret, bd_thr, vl_none, vl_some, iN_add, iN_mul, iN_sub, iN_lt, iN_eq, iN_n, iN_m1, iN_pred, vp_iN, K0_le, nr_b0, nr_b1, m1_lt, lt_m1, iN_ne_m1, m1_ne_iN, not_lt_z, true_and, and_true, and_self, or_true, true_or, or_false, false_or, if_true, if_false, ↓reduceIte, eq_self, up_at, up_a, up_k, cp_c, cp_b, Nat.zero_add, Nat.add_zero, Nat.sub_zero, Nat.le_refl, Nat.add_sub_cancel, fu_at, fu_ne, iN_nz, n10_f, n01_f, ofN, qq_at_100, k110b, Nat.lt_irrefl, Nat.not_lt_zero, ne_eq, not_false_eq_true, not_true_eq_false, k0, e0, r0, e, k2, k3, k4, k5, k6, k7, q1, q2, q3, q4, q5, q6, b_124_23, b_124_33, b_124_43, b_124_53, b_124_63, b_124_73, f1, f2, f3, f4, f5, f6, r7, f7]
      rw [← r7 (a + 1) e]
      refine ih (a + 1) _ (by omega) (by omega) (fun c hc => ?_) (fun c i h1 h2 h3 => ?_)
      · rw [up_c (by omega), up_c (by omega), up_c (by omega), up_c (by omega), up_c (by omega), up_c (by omega)]
        exact g1 c hc
      · have h9 := g2 c i h1 h2 h3
        by_cases ei : i = a
        · subst ei
          rw [if_pos ⟨hka, Nat.lt_succ_self _⟩]
          rcases (show c = 1 ∨ c = 2 ∨ c = 3 ∨ c = 4 ∨ c = 5 ∨ c = 6 by omega) with rfl | rfl | rfl | rfl | rfl | rfl <;> simp (disch := omega) only [rd_I_mk, rd_R_mk, rd_L_mk, rd_D_mk, kd_mk, wr_I_mk, cp_mk, gd_true, bd_ret, bd_thr, vl_none, vl_some, iN_add, iN_mul, iN_sub, iN_lt, iN_eq, iN_n, iN_m1, iN_pred, vp_iN, K0_le, nr_b0, nr_b1, m1_lt, lt_m1, iN_ne_m1, m1_ne_iN, not_lt_z, true_and, and_true, and_self, or_true, true_or, or_false, false_or, if_true, if_false, ↓reduceIte, eq_self, up_at, up_a, up_k, cp_c, cp_b, Nat.zero_add, Nat.add_zero, Nat.sub_zero, Nat.le_refl, Nat.add_sub_cancel, fu_at, fu_ne, iN_nz, n10_f, n01_f, ofN, qq_at_100, k110b, Nat.lt_irrefl, Nat.not_lt_zero, ne_eq, not_false_eq_true, not_true_eq_false]
        · have h8 : (if k ≤ i ∧ i < a then I (p + c) (i + 1) else I (p + c) i) = (if k ≤ i ∧ i < a + 1 then I (p + c) (i + 1) else I (p + c) i) := by
            by_cases q : k ≤ i ∧ i < a
            · rw [if_pos q, if_pos ⟨q.1, by omega⟩]
            · rw [if_neg q, if_neg (by omega)]
          rw [← h8, ← h9]
          rcases (show c = 1 ∨ c = 2 ∨ c = 3 ∨ c = 4 ∨ c = 5 ∨ c = 6 by omega) with rfl | rfl | rfl | rfl | rfl | rfl <;> simp (disch := omega) only [rd_I_mk, rd_R_mk, rd_L_mk, rd_D_mk, kd_mk, wr_I_mk, cp_mk, gd_true, bd_ret, bd_thr, vl_none, vl_some, iN_add, iN_mul, iN_sub, iN_lt, iN_eq, iN_n, iN_m1, iN_pred, vp_iN, K0_le, nr_b0, nr_b1, m1_lt, lt_m1, iN_ne_m1, m1_ne_iN, not_lt_z, true_and, and_true, and_self, or_true, true_or, or_false, false_or, if_true, if_false, ↓reduceIte, eq_self, up_at, up_a, up_k, cp_c, cp_b, Nat.zero_add, Nat.add_zero, Nat.sub_zero, Nat.le_refl, Nat.add_sub_cancel, fu_at, fu_ne, iN_nz, n10_f, n01_f, ofN, qq_at_100, k110b, Nat.lt_irrefl, Nat.not_lt_zero, ne_eq, not_false_eq_true, not_true_eq_false]
  obtain ⟨J', h1, h2, h3⟩ := lp (un U - 1 - k) k I (by omega) (Nat.le_refl _) (fun _ _ => rfl) (fun c i _ _ _ => by rw [if_neg (by omega)])
  obtain ⟨I', h4, h5, h6⟩ := c_dropCause (d := d) (I := up_2 J' p 0 (iN (un U - 1))) hL0 (n := un U - 1) up_at (by omega) (iN (w_id (ug U k)))
  refine ⟨I', ?_, ?_, ?_⟩
  · rw [c_124, b_124_0]
    simp (disch := omega) only [rd_I_mk, rd_R_mk, rd_L_mk, rd_D_mk, kd_mk, wr_I_mk, cp_mk, gd_true, bd_ret, bd_thr, vl_none, vl_some, iN_add, iN_mul, iN_sub, iN_lt, iN_eq, iN_n, iN_m1, iN_pred, vp_iN, K0_le, nr_b0, nr_b1, m1_lt, lt_m1, iN_ne_m1, m1_ne_iN, not_lt_z, true_and, and_true, and_self, or_true, true_or, or_false, false_or, if_true, if_false, ↓reduceIte, eq_self, up_at, up_a, up_k, cp_c, cp_b, Nat.zero_add, Nat.add_zero, Nat.sub_zero, Nat.le_refl, Nat.add_sub_cancel, fu_at, fu_ne, iN_nz, n10_f, n01_f, ofN, qq_at_100, k110b, Nat.lt_irrefl, Nat.not_lt_zero, ne_eq, not_false_eq_true, not_true_eq_false, k0, k2, q1, r2]
    rw [h1]
    simp (disch := omega) only [rd_I_mk, rd_R_mk, rd_L_mk, rd_D_mk, kd_mk, wr_I_mk, cp_mk, gd_true, bd_ret, bd_thr, vl_none, vl_some, iN_add, iN_mul, iN_sub, iN_lt, iN_eq, iN_n, iN_m1, iN_pred, vp_iN, K0_le, nr_b0, nr_b1, m1_lt, lt_m1, iN_ne_m1, m1_ne_iN, not_lt_z, true_and, and_true, and_self, or_true, true_or, or_false, false_or, if_true, if_false, ↓reduceIte, eq_self, up_at, up_a, up_k, cp_c, cp_b, Nat.zero_add, Nat.add_zero, Nat.sub_zero, Nat.le_refl, Nat.add_sub_cancel, fu_at, fu_ne, iN_nz, n10_f, n01_f, ofN, qq_at_100, k110b, Nat.lt_irrefl, Nat.not_lt_zero, ne_eq, not_false_eq_true, not_true_eq_false, b_124_81, k0, h4, b_124_84]
  · have hun := un_close hk
    have hx : ∀ i, i < un U - 1 → (if i < k then i else i + 1) < un U := fun i hi => by split <;> omega
    have hy : ∀ c i, 1 ≤ c → c ≤ 6 → i < un U - 1 → J' (p + c) i = I (p + c) (if i < k then i else i + 1) := fun c i q1 q2 q3 => by
      rw [h3 c i q1 q2 q3]
      by_cases q : i < k
      · rw [if_neg (by omega), if_pos q]
      · rw [if_pos (by omega), if_neg q]
    refine ⟨?_, ?_, fun i hi => ?_, fun i hi => ?_, fun i hi => ?_, fun i hi => ?_, fun i hi => ?_, fun i hi => ?_⟩
    · rw [h5 p (by omega), up_at, hun]
    · rw [h5 p (by omega), up_k (by omega), h2 p (by omega)]
      exact r1
    · rw [hun] at hi
      rw [h5 _ (by omega), up_a (by omega), hy 1 i (by omega) (by omega) hi, r2 _ (hx i hi), ug_close hk hi]; rfl
    · rw [hun] at hi
      rw [h5 _ (by omega), up_a (by omega), hy 2 i (by omega) (by omega) hi, r3 _ (hx i hi), ug_close hk hi]; rfl
    · rw [hun] at hi
      rw [h5 _ (by omega), up_a (by omega), hy 3 i (by omega) (by omega) hi, r4 _ (hx i hi), ug_close hk hi]; rfl
    · rw [hun] at hi
      rw [h5 _ (by omega), up_a (by omega), hy 4 i (by omega) (by omega) hi, r5 _ (hx i hi), ug_close hk hi]; rfl
    · rw [hun] at hi
      have h9 := w4 _ (hx i hi)
      have h8 := (w4 k hk).1
      rw [h6 i hi, up_a (by omega), hy 5 i (by omega) (by omega) hi, r6 _ (hx i hi), ug_close hk hi]
      generalize ug U (if i < k then i else i + 1) = w at h9
      show _ = caC (if w_ca w = w_id (ug U k) + 1 then 0 else w_ca w)
      by_cases q0 : w_ca w = 0
      · rw [q0, caC_0, if_neg (by rw [m1_ne_iN (by omega)]; exact id), if_neg (by omega), caC_0]
      · obtain ⟨c, hc⟩ : ∃ c, w_ca w = c + 1 := ⟨w_ca w - 1, by omega⟩
        have hcl : c < 1000000 := by
          rcases h9.2.2.2.2.2.2 with z | ⟨j, hj, z⟩
          · omega
          · have := hx i hi
            have := (w4 j (by omega)).1
            omega
        rw [hc, caC_s]
        by_cases q1 : c = w_id (ug U k)
        · rw [if_pos (by rw [q1]), if_pos (by omega), caC_0]
        · rw [if_neg (by rw [iN_eq (by omega) (by omega)]; exact q1), if_neg (by omega), caC_s]
    · rw [hun] at hi
      rw [h5 _ (by omega), up_a (by omega), hy 6 i (by omega) (by omega) hi, r7 _ (hx i hi), ug_close hk hi]; rfl
  · intro a ha
    rw [h5 a (by omega), up_c (by omega), h2 a (by omega)]
/-- is a statue bound -/
def bU (U : sU) (x : Nat) : Bool := (ff (fun k => (w_of (ug U k) == x) && (w_pd (ug U k) == 0)) 0 (un U)).isSome
theorem c_bind (hL : L_W τ p) (hR : R_U I p U) (hw : wU U) {x : Nat} (hx : x < 6) : CC d 126 [.ref p, .int (iN x)] (I, τ) = some (.inl (some (.int (if bU U x = true then iN 1 else iN 0))), (I, τ)) := by
  obtain ⟨hp, k0, k2, k3, k4, k5, k6, k7, q1, q2, q3, q4, q5, q6⟩ := hL
  obtain ⟨r0, r1, r2, r3, r4, r5, r6, r7⟩ := hR
  have w1 := hw.1
  have w4 := hw.2.2.2
  have lp : ∀ n k, k + n = un U → RR d 126 2 [some (.ref p), some (.int (iN x)), some (.int (iN k))] [] (I, τ) = some (.inl (some (.int (if (ff (fun k => (w_of (ug U k) == x) && (w_pd (ug U k) == 0)) k n).isSome = true then iN 1 else iN 0))), (I, τ)) := by
    intro n
    induction n with
    | zero =>
      intro k hk
      rw [b_126_2]
      have e : ¬ k < un U := by omega
      simp (disch := omega) only [rd_I_mk, rd_R_mk, rd_L_mk, rd_D_mk, kd_mk, wr_I_mk, cp_mk, gd_true, bd_ret, bd_thr, vl_none, vl_some, iN_add, iN_mul, iN_sub, iN_lt, iN_eq, iN_n, iN_m1, iN_pred, vp_iN, K0_le, nr_b0, nr_b1, m1_lt, lt_m1, iN_ne_m1, m1_ne_iN, not_lt_z, true_and, and_true, and_self, or_true, true_or, or_false, false_or, if_true, if_false, ↓reduceIte, eq_self, up_at, up_a, up_k, cp_c, cp_b, Nat.zero_add, Nat.add_zero, Nat.sub_zero, Nat.le_refl, Nat.add_sub_cancel, fu_at, fu_ne, iN_nz, n10_f, n01_f, ofN, qq_at_100, k110b, Nat.lt_irrefl, Nat.not_lt_zero, ne_eq, not_false_eq_true, not_true_eq_false, k0, r0, e, ff]
      rfl
    | succ n ih =>
      intro k hk
      rw [b_126_2]
      have e : k < un U := by omega
      have e4 := w4 k e
      have ih2 := ih (k + 1) (by omega)
      by_cases h1 : w_of (ug U k) = x
      · by_cases h2 : w_pd (ug U k) = 0
        · rw [ff_y (by simp [h1, h2])]
          simp (disch := omega) only [rd_I_mk, rd_R_mk, rd_L_mk, rd_D_mk, kd_mk, wr_I_mk, cp_mk, gd_true, bd_ret, bd_thr, vl_none, vl_some, iN_add, iN_mul, iN_sub, iN_lt, iN_eq, iN_n, iN_m1, iN_pred, vp_iN, K0_le, nr_b0, nr_b1, m1_lt, lt_m1, iN_ne_m1, m1_ne_iN, not_lt_z, true_and, and_true, and_self, or_true, true_or, or_false, false_or, if_true, if_false, ↓reduceIte, eq_self, up_at, up_a, up_k, cp_c, cp_b, Nat.zero_add, Nat.add_zero, Nat.sub_zero, Nat.le_refl, Nat.add_sub_cancel, fu_at, fu_ne, iN_nz, n10_f, n01_f, ofN, qq_at_100, k110b, Nat.lt_irrefl, Nat.not_lt_zero, ne_eq, not_false_eq_true, not_true_eq_false, k0, r0, e, k3, q2, r3, h1, k7, q6, r7, h2, Option.isSome_some]
        · rw [ff_n (by simp [h2])]
          simp (disch := omega) only [rd_I_mk, rd_R_mk, rd_L_mk, rd_D_mk, kd_mk, wr_I_mk, cp_mk, gd_true, bd_ret, bd_thr, vl_none, vl_some, iN_add, iN_mul, iN_sub, iN_lt, iN_eq, iN_n, iN_m1, iN_pred, vp_iN, K0_le, nr_b0, nr_b1, m1_lt, lt_m1, iN_ne_m1, m1_ne_iN, not_lt_z, true_and, and_true, and_self, or_true, true_or, or_false, false_or, if_true, if_false, ↓reduceIte, eq_self, up_at, up_a, up_k, cp_c, cp_b, Nat.zero_add, Nat.add_zero, Nat.sub_zero, Nat.le_refl, Nat.add_sub_cancel, fu_at, fu_ne, iN_nz, n10_f, n01_f, ofN, qq_at_100, k110b, Nat.lt_irrefl, Nat.not_lt_zero, ne_eq, not_false_eq_true, not_true_eq_false, k0, r0, e, k3, q2, r3, h1, k7, q6, r7, h2, b_126_19]
          exact ih2
      · rw [ff_n (by simp [h1])]
        simp (disch := omega) only [rd_I_mk, rd_R_mk, rd_L_mk, rd_D_mk, kd_mk, wr_I_mk, cp_mk, gd_true, bd_ret, bd_thr, vl_none, vl_some, iN_add, iN_mul, iN_sub, iN_lt, iN_eq, iN_n, iN_m1, iN_pred, vp_iN, K0_le, nr_b0, nr_b1, m1_lt, lt_m1, iN_ne_m1, m1_ne_iN, not_lt_z, true_and, and_true, and_self, or_true, true_or, or_false, false_or, if_true, if_false, ↓reduceIte, eq_self, up_at, up_a, up_k, cp_c, cp_b, Nat.zero_add, Nat.add_zero, Nat.sub_zero, Nat.le_refl, Nat.add_sub_cancel, fu_at, fu_ne, iN_nz, n10_f, n01_f, ofN, qq_at_100, k110b, Nat.lt_irrefl, Nat.not_lt_zero, ne_eq, not_false_eq_true, not_true_eq_false, k0, r0, e, k3, q2, r3, h1, b_126_19]
        exact ih2
  rw [c_126, b_126_0]
  exact lp _ 0 (by omega)
end WR
