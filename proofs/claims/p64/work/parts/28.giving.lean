/-! THE DOCKET: giving up the smallest bail -/
def dsc (l : List Nat) : Prop := l.Pairwise (fun a b => b ≤ a)
theorem insD_perm (b : Nat) : ∀ l, (insD b l).Perm (b :: l) := by
  intro l
  induction l with
  | nil => exact List.Perm.refl _
  | cons a l ih =>
    rw [insD]
    split
    · exact List.Perm.refl _
    · exact (ih.cons a).trans (List.Perm.swap _ _ _)
theorem insD_len (b : Nat) (l : List Nat) : (insD b l).length = l.length + 1 := (insD_perm b l).length_eq
theorem insD_dsc {b : Nat} : ∀ {l}, dsc l → dsc (insD b l) := by
  intro l
  induction l with
  | nil => intro _; exact List.pairwise_singleton _ _
  | cons a l ih =>
    intro h
    obtain ⟨h1, h2⟩ := List.pairwise_cons.mp h
    rw [insD]
    split
    · rename_i hab
      refine List.pairwise_cons.mpr ⟨fun x hx => ?_, h⟩
      rcases List.mem_cons.mp hx with rfl | hx
      · omega
      · have := h1 x hx; omega
    · rename_i hab
      refine List.pairwise_cons.mpr ⟨fun x hx => ?_, ih h2⟩
      rcases List.mem_cons.mp ((insD_perm b l).mem_iff.mp hx) with rfl | hx
      · omega
      · exact h1 x hx
theorem gr_dsc (U : sU) (f : Nat) : ∀ r, dsc (gr U f r) := by
  intro r
  induction r with
  | zero => exact List.Pairwise.nil
  | succ r ih => rw [gr]; exact (insD_dsc ih).sublist (List.take_sublist _ _)
theorem ow_ck {U : sU} {r s : Nat} (h : r < s) (hs : s < un U) : ck U (ow U r) (ow U s) := by
  have hl := od_len U (un U)
  have := List.pairwise_iff_getElem.mp (od_ok U (un U)).2 r s (by omega) (by omega) h
  unfold ow
  rw [getD_lt (by omega), getD_lt (by omega)]
  exact this
theorem ow_la {U : sU} {r s : Nat} (h : r ≤ s) (hs : s < un U) : la U (ow U r) ≤ la U (ow U s) := by
  rcases Nat.lt_or_eq_of_le h with h | h
  · rcases ow_ck h hs with h | h <;> omega
  · rw [h]; exact Nat.le_refl _
theorem gr_len {U : sU} {f : Nat} : ∀ r, r < un U → (gr U f r).length ≤ la U (ow U r) + 1 - f ∧ (gr U f r).length ≤ r := by
  intro r
  induction r with
  | zero => intro _; exact ⟨Nat.zero_le _, Nat.le_refl _⟩
  | succ r ih =>
    intro h
    have h1 := ow_la (U := U) (r := r) (s := r + 1) (by omega) h
    have h2 := ih (by omega)
    have h3 : (gr U f (r + 1)).length = min (la U (ow U r) + 1 - f) ((gr U f r).length + 1) := by
      rw [gr, List.length_take, insD_len]
    omega
theorem set_perm {v : Nat} : ∀ (l : List Nat) (s : Nat) (h : s < l.length), (l[s] :: l.set s v).Perm (v :: l) := by
  intro l
  induction l with
  | nil => intro s h; exact absurd h (Nat.not_lt_zero _)
  | cons a l ih =>
    intro s h
    cases s with
    | zero => exact List.Perm.swap _ _ _
    | succ s =>
      have h2 := ih s (by rw [List.length_cons] at h; omega)
      rw [List.set_cons_succ, List.getElem_cons_succ]
      exact (List.Perm.swap _ _ _).trans ((h2.cons a).trans (List.Perm.swap _ _ _))
theorem take_last {l : List Nat} {c : Nat} (h : l.length = c + 1) : l = l.take c ++ [l.getD c 0] := by
  conv => lhs; rw [← List.take_append_drop c l]
  congr 1
  rw [getD_lt (by omega)]
  rw [List.drop_eq_getElem_cons (by omega), List.drop_eq_nil_of_le (by omega)]
theorem give_perm {A : List Nat} {c s : Nat} (hA : A.length = c + 1) (hs : s ≤ c) : A.Perm (A.getD s 0 :: (A.set s (A.getD c 0)).take c) := by
  have h1 := set_perm (v := A.getD c 0) A s (by omega)
  have h2 := take_last (l := A.set s (A.getD c 0)) (c := c) (by rw [List.length_set]; exact hA)
  have h3 : (A.set s (A.getD c 0)).getD c 0 = A.getD c 0 := by
    rw [List.getD_eq_getElem?_getD, List.getElem?_set]
    by_cases e : s = c
    · rw [if_pos e, if_pos (by omega)]; rfl
    · rw [if_neg e, ← List.getD_eq_getElem?_getD]
  rw [h3] at h2
  rw [h2] at h1
  rw [getD_lt (by omega)]
  have h4 : (A.getD c 0 :: (A[s]'(by omega) :: (A.set s (A.getD c 0)).take c)).Perm (A.getD c 0 :: A) := by
    refine List.Perm.trans ?_ h1
    exact (List.perm_append_singleton _ _).symm.trans (List.Perm.refl _)
  exact (List.Perm.cons_inv h4).symm
/-- without its smallest, whatever the order -/
theorem give_take {A T B : List Nat} {m c : Nat} (hT : dsc T) (hAT : A.Perm T) (hA : A.length = c + 1) (hB : A.Perm (m :: B)) (hm : ∀ x ∈ A, m ≤ x) : B.Perm (T.take c) ∧ T.sum = m + (T.take c).sum := by
  have hl : T.length = c + 1 := by rw [← hAT.length_eq]; exact hA
  have h1 := take_last hl
  have hmem : T.getD c 0 ∈ T := by rw [getD_lt (by omega)]; exact List.getElem_mem _
  have e1 : m ≤ T.getD c 0 := hm _ (hAT.mem_iff.mpr hmem)
  have e2 : T.getD c 0 ≤ m := by
    have hmT : m ∈ T := hAT.mem_iff.mp (hB.mem_iff.mpr List.mem_cons_self)
    rw [h1] at hmT
    rcases List.mem_append.mp hmT with q | q
    · have hT2 := hT
      unfold dsc at hT2
      rw [h1] at hT2
      exact (List.pairwise_append.mp hT2).2.2 m q _ (List.mem_singleton.mpr rfl)
    · rw [List.mem_singleton.mp q]; exact Nat.le_refl _
  have e3 : T.getD c 0 = m := by omega
  rw [e3] at h1
  constructor
  · have h2 : (m :: B).Perm (m :: T.take c) := by
      refine hB.symm.trans (hAT.trans ?_)
      conv => lhs; rw [h1]
      exact List.perm_append_singleton _ _
    exact List.Perm.cons_inv h2
  · conv => lhs; rw [h1]
    rw [List.sum_append, List.sum_singleton, Nat.add_comm]
theorem sum_le9 {l : List Nat} {B : Nat} (h : ∀ x ∈ l, x ≤ B) : l.sum ≤ l.length * B := by
  induction l with
  | nil => exact Nat.zero_le _
  | cons a l ih =>
    have h1 := ih (fun x hx => h x (List.mem_cons_of_mem _ hx))
    have h2 := h a List.mem_cons_self
    rw [List.sum_cons, List.length_cons, Nat.succ_mul]
    omega
section GV
variable {d : Nat} {I : qq_I} {τ : qq_R} {p q : Nat} {U : sU}
theorem c_giveUpSmallest (hD : L_D τ q) {A : List Nat} {c : Nat} (hc : c < 8) (hA : A.length = c + 1) (hb : ∀ x ∈ A, x ≤ 100) (hI : ∀ i, i < c + 1 → I (q + 2) i = iN (A.getD i 0)) :
    ∃ (m : Nat) (B : List Nat) (I' : qq_I), CC d 39 [.ref q, .int (iN c)] (I, τ) = some (.inl (some (.int (iN m))), (I', τ)) ∧ A.Perm (m :: B) ∧ (∀ x ∈ A, m ≤ x) ∧ B.length = c ∧ (∀ i, i < c → I' (q + 2) i = iN (B.getD i 0)) ∧ (∀ a, a ≠ q + 2 → I' a = I a) := by
  obtain ⟨hq, k0, k1, k2, q1, q2⟩ := hD
  have hbd : ∀ i, i < c + 1 → A.getD i 0 ≤ 100 := fun i hi => hb _ (by rw [getD_lt (by omega)]; exact List.getElem_mem _)
  have lp : ∀ m i s, i + m = c → s ≤ c → (∀ j, j < i → A.getD s 0 ≤ A.getD j 0) → A.getD s 0 ≤ A.getD c 0 → ∃ s', s' ≤ c ∧ (∀ j, j < c + 1 → A.getD s' 0 ≤ A.getD j 0) ∧
      RR d 39 4 [some (.ref q), some (.int (iN c)), some (.int (iN s)), some (.int (iN i))] [] (I, τ) = some (.inl (some (.int (iN (A.getD s' 0)))), (up_2 I (q + 2) s' (iN (A.getD c 0)), τ)) := by
    intro m
    induction m with
    | zero =>
      intro i s hi hs h1 h2
      refine ⟨s, hs, fun j hj => ?_, ?_⟩
      · by_cases e : j = c
        · rw [e]; exact h2
        · exact h1 j (by omega)
      · rw [b_39_4]
        have e : ¬ i < c := by omega
        simp (disch := omega) only [rd_I_mk, rd_R_mk, rd_L_mk, rd_D_mk, kd_mk, wr_I_mk, cp_mk, gd_true, bd_ret, bd_thr, vl_none, vl_some, iN_add, iN_mul, iN_sub, iN_lt, iN_eq, iN_n, iN_m1, iN_pred, vp_iN, K0_le, nr_b0, nr_b1, m1_lt, lt_m1, iN_ne_m1, m1_ne_iN, not_lt_z, true_and, and_true, and_self, or_true, true_or, or_false, false_or, if_true, if_false, ↓reduceIte, eq_self, up_at, up_a, up_k, cp_c, cp_b, Nat.zero_add, Nat.add_zero, Nat.sub_zero, Nat.le_refl, Nat.add_sub_cancel, fu_at, fu_ne, iN_nz, n10_f, n01_f, ofN, qq_at_100, k110b, Nat.lt_irrefl, Nat.not_lt_zero, ne_eq, not_false_eq_true, not_true_eq_false, e, k0, k2, q2, hI, b_39_33]
    | succ m ih =>
      intro i s hi hs h1 h2
      have e : i < c := by omega
      have g1 := hbd i (by omega)
      have g2 := hbd s (by omega)
      by_cases e2 : A.getD i 0 < A.getD s 0
      · obtain ⟨s', t1, t2, t3⟩ := ih (i + 1) i (by omega) (by omega) (fun j hj => by
          by_cases ej : j = i
          · rw [ej]; exact Nat.le_refl _
          · have := h1 j (by omega); omega) (by omega)
        refine ⟨s', t1, t2, ?_⟩
        rw [b_39_4]
        simp (disch := omega) only [rd_I_mk, rd_R_mk, rd_L_mk, rd_D_mk, kd_mk, wr_I_mk, cp_mk, gd_true, bd_ret, bd_thr, vl_none, vl_some, iN_add, iN_mul, iN_sub, iN_lt, iN_eq, iN_n, iN_m1, iN_pred, vp_iN, K0_le, nr_b0, nr_b1, m1_lt, lt_m1, iN_ne_m1, m1_ne_iN, not_lt_z, true_and, and_true, and_self, or_true, true_or, or_false, false_or, if_true, if_false, ↓reduceIte, eq_self, up_at, up_a, up_k, cp_c, cp_b, Nat.zero_add, Nat.add_zero, Nat.sub_zero, Nat.le_refl, Nat.add_sub_cancel, fu_at, fu_ne, iN_nz, n10_f, n01_f, ofN, qq_at_100, k110b, Nat.lt_irrefl, Nat.not_lt_zero, ne_eq, not_false_eq_true, not_true_eq_false, e, k0, k2, q2, hI, e2, b_39_18]
        exact t3
      · obtain ⟨s', t1, t2, t3⟩ := ih (i + 1) s (by omega) hs (fun j hj => by
          by_cases ej : j = i
          · rw [ej]; omega
          · exact h1 j (by omega)) h2
        refine ⟨s', t1, t2, ?_⟩
        rw [b_39_4]
        simp (disch := omega) only [rd_I_mk, rd_R_mk, rd_L_mk, rd_D_mk, kd_mk, wr_I_mk, cp_mk, gd_true, bd_ret, bd_thr, vl_none, vl_some, iN_add, iN_mul, iN_sub, iN_lt, iN_eq, iN_n, iN_m1, iN_pred, vp_iN, K0_le, nr_b0, nr_b1, m1_lt, lt_m1, iN_ne_m1, m1_ne_iN, not_lt_z, true_and, and_true, and_self, or_true, true_or, or_false, false_or, if_true, if_false, ↓reduceIte, eq_self, up_at, up_a, up_k, cp_c, cp_b, Nat.zero_add, Nat.add_zero, Nat.sub_zero, Nat.le_refl, Nat.add_sub_cancel, fu_at, fu_ne, iN_nz, n10_f, n01_f, ofN, qq_at_100, k110b, Nat.lt_irrefl, Nat.not_lt_zero, ne_eq, not_false_eq_true, not_true_eq_false, e, k0, k2, q2, hI, e2, b_39_18]
        exact t3
  obtain ⟨s, h1, h2, h3⟩ := lp c 0 c (by omega) (Nat.le_refl _) (fun j hj => by omega) (Nat.le_refl _)
  refine ⟨A.getD s 0, (A.set s (A.getD c 0)).take c, up_2 I (q + 2) s (iN (A.getD c 0)), ?_, give_perm hA h1, fun x hx => ?_, by rw [List.length_take, List.length_set]; omega, fun i hi => ?_, fun a ha => up_c ha⟩
  · rw [c_39, b_39_0]; exact h3
  · obtain ⟨i, hi, rfl⟩ := List.getElem_of_mem hx
    have := h2 i (by omega)
    rw [getD_lt (l := A) (i := i) (by omega)] at this
    exact this
  · have e : ((A.set s (A.getD c 0)).take c).getD i 0 = if s = i then A.getD c 0 else A.getD i 0 := by
      rw [List.getD_eq_getElem?_getD, List.getElem?_take, if_pos hi, List.getElem?_set]
      by_cases es : s = i
      · rw [if_pos es, if_pos es, if_pos (by omega)]; rfl
      · rw [if_neg es, if_neg es, ← List.getD_eq_getElem?_getD]
    rw [e]
    by_cases es : s = i
    · rw [if_pos es, es, up_at]
    · rw [if_neg es, up_k (fun z => es z.symm)]; exact hI i (by omega)
theorem c_givingUp (hD : L_D τ q) (hL : L_W τ p) (hR : R_U I p U) (hw : wU U) (hne : p + 7 ≤ q ∨ q + 3 ≤ p) {f : Nat} (hf : f < 1000000) : ∃ I', CC (d + 2) 38 [.ref q, .ref p, .int (iN f)] (I, τ) = some (.inl (some (.int (iN (gr U f (un U)).sum))), (I', τ)) ∧ Fr q 3 I I' := by
  have n1 : p + 3 ≠ q + 2 := by omega
  obtain ⟨I1, h1, h2, h3⟩ := c_sort (d := d) hD hL hR hw hne
  have hRI : R_U I1 p U := R_U_same hR (fun a e1 e2 => h3 a (by omega))
  have hD0 := hD
  obtain ⟨hq, k0, k1, k2, q1, q2⟩ := hD
  obtain ⟨hp, l0, l2, l3, l4, l5, l6, l7, i1, i2, i3, i4, i5, i6⟩ := hL
  obtain ⟨r0, r1, r2, r3, r4, r5, r6, r7⟩ := hRI
  have w1 := hw.1
  have w4 := hw.2.2.2
  have lp : ∀ m r (A : List Nat) (J : qq_I) (u : Option Value), r + m = un U → A.Perm (gr U f r) → (∀ x ∈ A, x ≤ 100) → (∀ a, a ≠ q + 2 → J a = I1 a) → (∀ i, i < A.length → J (q + 2) i = iN (A.getD i 0)) →
      ∃ I', RR (d + 1 + 1) 38 9 [some (.ref q), some (.ref p), some (.int (iN f)), some (.int (iN A.length)), some (.int (iN A.sum)), some (.int (iN r)), u] [] (J, τ) = some (.inl (some (.int (iN (gr U f (un U)).sum))), (I', τ)) ∧ (∀ a, a ≠ q + 2 → I' a = I1 a) := by
    intro m
    induction m with
    | zero =>
      intro r A J u hr hA hb g1 g2
      refine ⟨J, ?_, g1⟩
      have e : ¬ r < un U := by omega
      have e0 := g1 p (by omega)
      rw [b_38_9]
      simp (disch := omega) only [rd_I_mk, rd_R_mk, rd_L_mk, rd_D_mk, kd_mk, wr_I_mk, cp_mk, gd_true, bd_ret, bd_thr, vl_none, vl_some, iN_add, iN_mul, iN_sub, iN_lt, iN_eq, iN_n, iN_m1, iN_pred, vp_iN, K0_le, nr_b0, nr_b1, m1_lt, lt_m1, iN_ne_m1, m1_ne_iN, not_lt_z, true_and, and_true, and_self, or_true, true_or, or_false, false_or, if_true, if_false, ↓reduceIte, eq_self, up_at, up_a, up_k, cp_c, cp_b, Nat.zero_add, Nat.add_zero, Nat.sub_zero, Nat.le_refl, Nat.add_sub_cancel, fu_at, fu_ne, iN_nz, n10_f, n01_f, ofN, qq_at_100, k110b, Nat.lt_irrefl, Nat.not_lt_zero, ne_eq, not_false_eq_true, not_true_eq_false, l0, e0, r0, e]
      rw [show un U = r by omega, hA.sum_nat]
    | succ m ih =>
      intro r A J u hr hA hb g1 g2
      have e : r < un U := by omega
      have e0 := g1 p (by omega)
      have e1 := g1 (q + 1) (by omega)
      have e4 := g1 (p + 4) (by omega)
      have e3 := g1 (p + 3) (by omega)
      have ew := ow_lt e
      have hx := w4 _ ew
      obtain ⟨hl1, hl2⟩ := gr_len (U := U) (f := f) r e
      rw [← hA.length_eq] at hl1 hl2
      have hsum := sum_le9 hb
      have hsum2 : A.sum ≤ 700 := by
        have : A.length * 100 ≤ 7 * 100 := Nat.mul_le_mul_right _ (by omega)
        omega
      have hA2 : (A ++ [w_ba (ug U (ow U r))]).Perm (insD (ba U (ow U r)) (gr U f r)) := (List.perm_append_singleton _ _).trans ((hA.cons _).trans (insD_perm _ _).symm)
      have hb2 : ∀ x ∈ A ++ [w_ba (ug U (ow U r))], x ≤ 100 := fun x hx9 => by
        rcases List.mem_append.mp hx9 with h | h
        · exact hb x h
        · rw [List.mem_singleton.mp h]; omega
      have hlen2 : (A ++ [w_ba (ug U (ow U r))]).length = A.length + 1 := by rw [List.length_append]; rfl
      have hsm2 : (A ++ [w_ba (ug U (ow U r))]).sum = A.sum + w_ba (ug U (ow U r)) := by rw [List.sum_append, List.sum_singleton]
      have hJ2 : ∀ i, i < A.length + 1 → up_2 J (q + 2) A.length (iN (w_ba (ug U (ow U r)))) (q + 2) i = iN ((A ++ [w_ba (ug U (ow U r))]).getD i 0) := fun i hi => by
        rw [List.getD_eq_getElem?_getD]
        by_cases ei : i = A.length
        · rw [ei, up_at, List.getElem?_append_right (Nat.le_refl _), Nat.sub_self]; rfl
        · rw [up_k ei, g2 i (by omega), List.getElem?_append_left (by omega), ← List.getD_eq_getElem?_getD]
      have g3 := up_a (I := J) (k := A.length) (j := ow U r) (v := iN (w_ba (ug U (ow U r)))) n1
      have hgr : gr U f (r + 1) = (insD (ba U (ow U r)) (gr U f r)).take (la U (ow U r) + 1 - f) := rfl
      have hT := insD_dsc (b := ba U (ow U r)) (gr_dsc U f r)
      by_cases hcut : w_la (ug U (ow U r)) + 1 < f + (A.length + 1)
      · obtain ⟨mm, B, J2, s1, s2, s3, s4, s5, s6⟩ := c_giveUpSmallest (d := d + 1) (I := up_2 J (q + 2) A.length (iN (w_ba (ug U (ow U r))))) hD0 (by omega) hlen2 hb2 hJ2
        obtain ⟨u1, u2⟩ := give_take hT hA2 hlen2 s2 s3
        have hc : la U (ow U r) + 1 - f = A.length := by
          have : la U (ow U r) = w_la (ug U (ow U r)) := rfl
          omega
        have hBs : A.sum + w_ba (ug U (ow U r)) - mm = B.sum := by
          rw [← hsm2, hA2.sum_nat, u2, u1.sum_nat]; omega
        have hmm : mm ≤ A.sum + w_ba (ug U (ow U r)) := by
          rw [← hsm2, hA2.sum_nat, u2]; omega
        have hmm2 : mm ≤ 1000 := by omega
        obtain ⟨I', t1, t2⟩ := ih (r + 1) B J2 (some (.int (iN (w_ba (ug U (ow U r)))))) (by omega) (by rw [hgr, hc]; exact u1) (fun x hx9 => hb2 x (s2.mem_iff.mpr (List.mem_cons_of_mem _ hx9))) (fun a ha => by rw [s6 a ha, up_c ha, g1 a ha]) (fun i hi => s5 i (by omega))
        refine ⟨I', ?_, t2⟩
        rw [s4, ← hBs] at t1
        rw [b_38_9]
        simp (disch := omega) only [rd_I_mk, rd_R_mk, rd_L_mk, rd_D_mk, kd_mk, wr_I_mk, cp_mk, gd_true, bd_ret, bd_thr, vl_none, vl_some, iN_add, iN_mul, iN_lt, iN_eq, iN_n, iN_m1, iN_pred, vp_iN, K0_le, nr_b0, nr_b1, m1_lt, lt_m1, iN_ne_m1, m1_ne_iN, not_lt_z, true_and, and_true, and_self, or_true, true_or, or_false, false_or, if_true, if_false, ↓reduceIte, eq_self, up_at, up_a, up_k, cp_c, cp_b, Nat.zero_add, Nat.add_zero, Nat.sub_zero, Nat.le_refl, Nat.add_sub_cancel, fu_at, fu_ne, iN_nz, n10_f, n01_f, ofN, qq_at_100, k110b, Nat.lt_irrefl, Nat.not_lt_zero, ne_eq, not_false_eq_true, not_true_eq_false, l0, e0, r0, e, k0, k1, q1, e1, h2, l5, i4, e4, r5, k2, q2, b_38_26, l4, i3, g3, e3, r4, iN_sl, hcut, s1, b_38_49, b_38_51]
        rw [iN_sub hmm]
        exact t1
      · have hc : (insD (ba U (ow U r)) (gr U f r)).length ≤ la U (ow U r) + 1 - f := by
          rw [insD_len, ← hA.length_eq]
          have : la U (ow U r) = w_la (ug U (ow U r)) := rfl
          omega
        obtain ⟨I', t1, t2⟩ := ih (r + 1) (A ++ [w_ba (ug U (ow U r))]) (up_2 J (q + 2) A.length (iN (w_ba (ug U (ow U r))))) (some (.int (iN (w_ba (ug U (ow U r)))))) (by omega) (by rw [hgr, List.take_of_length_le hc]; exact hA2) hb2 (fun a ha => by rw [up_c ha, g1 a ha]) (fun i hi => hJ2 i (by omega))
        refine ⟨I', ?_, t2⟩
        rw [hlen2, hsm2] at t1
        rw [b_38_9]
        simp (disch := omega) only [rd_I_mk, rd_R_mk, rd_L_mk, rd_D_mk, kd_mk, wr_I_mk, cp_mk, gd_true, bd_ret, bd_thr, vl_none, vl_some, iN_add, iN_mul, iN_lt, iN_eq, iN_n, iN_m1, iN_pred, vp_iN, K0_le, nr_b0, nr_b1, m1_lt, lt_m1, iN_ne_m1, m1_ne_iN, not_lt_z, true_and, and_true, and_self, or_true, true_or, or_false, false_or, if_true, if_false, ↓reduceIte, eq_self, up_at, up_a, up_k, cp_c, cp_b, Nat.zero_add, Nat.add_zero, Nat.sub_zero, Nat.le_refl, Nat.add_sub_cancel, fu_at, fu_ne, iN_nz, n10_f, n01_f, ofN, qq_at_100, k110b, Nat.lt_irrefl, Nat.not_lt_zero, ne_eq, not_false_eq_true, not_true_eq_false, l0, e0, r0, e, k0, k1, q1, e1, h2, l5, i4, e4, r5, k2, q2, b_38_26, l4, i3, g3, e3, r4, iN_sl, hcut, b_38_51]
        exact t1
  obtain ⟨I', t1, t2⟩ := lp (un U) 0 [] I1 none (by omega) (List.Perm.refl _) (fun x hx => nomatch hx) (fun _ _ => rfl) (fun i hi => absurd hi (Nat.not_lt_zero _))
  refine ⟨I', ?_, fun a ha => by rw [t2 a (by omega), h3 a (by omega)]⟩
  rw [c_38, b_38_0]
  simp (disch := omega) only [rd_I_mk, rd_R_mk, rd_L_mk, rd_D_mk, kd_mk, wr_I_mk, cp_mk, gd_true, bd_ret, bd_thr, vl_none, vl_some, iN_add, iN_mul, iN_sub, iN_lt, iN_eq, iN_n, iN_m1, iN_pred, vp_iN, K0_le, nr_b0, nr_b1, m1_lt, lt_m1, iN_ne_m1, m1_ne_iN, not_lt_z, true_and, and_true, and_self, or_true, true_or, or_false, false_or, if_true, if_false, ↓reduceIte, eq_self, up_at, up_a, up_k, cp_c, cp_b, Nat.zero_add, Nat.add_zero, Nat.sub_zero, Nat.le_refl, Nat.add_sub_cancel, fu_at, fu_ne, iN_nz, n10_f, n01_f, ofN, qq_at_100, k110b, Nat.lt_irrefl, Nat.not_lt_zero, ne_eq, not_false_eq_true, not_true_eq_false, k0, h1, b_38_3]
  exact t1
end GV
