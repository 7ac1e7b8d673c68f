/-! THE DOCKET: ranking writs, the values both ways -/
theorem iN_sl {a b c : Nat} (ha : a < 1000000000) (hb : b < 1000000000) (hc : c < 1000000000) : (iN a - iN b + iN 1 < iN c) = (a + 1 < b + c) := by
  have e : iN a - iN b + iN 1 = Int32.ofInt ((a : Int) - b + 1) := by
    show Int32.ofNat a - Int32.ofNat b + Int32.ofNat 1 = _
    rw [← Int32.ofInt_eq_ofNat, ← Int32.ofInt_eq_ofNat, ← Int32.ofInt_eq_ofNat, ← Int32.ofInt_sub, ← Int32.ofInt_add]
    rfl
  rw [e, Int32.lt_iff_toInt_lt, Int32.toInt_ofInt_of_le (by omega) (by omega), iN_toInt (by omega)]
  refine propext ⟨fun h => by omega, fun h => by omega⟩
theorem iN_mx (a b : Nat) : (if a < b then iN b else iN a) = iN (max a b) := by
  by_cases h : a < b
  · rw [if_pos h, Nat.max_eq_right (Nat.le_of_lt h)]
  · rw [if_neg h, Nat.max_eq_left (by omega)]
def la (U : sU) (k : Nat) : Nat := w_la (ug U k)
def ba (U : sU) (k : Nat) : Nat := w_ba (ug U k)
/-- the later one comes before -/
def cbB (U : sU) (j x : Nat) : Bool := if la U j = la U x then decide (ba U x < ba U j) else decide (la U j < la U x)
def ck (U : sU) (a b : Nat) : Prop := la U a < la U b ∨ la U a = la U b ∧ (ba U b < ba U a ∨ ba U a = ba U b ∧ a < b)
def rkB (U : sU) (j : Nat) (l : List Nat) : Nat := (l.takeWhile (fun x => !(cbB U j x))).length
def od (U : sU) : Nat → List Nat
  | 0 => []
  | m + 1 => (od U m).take (rkB U m (od U m)) ++ m :: (od U m).drop (rkB U m (od U m))
theorem rkB_le {U : sU} {j : Nat} : ∀ {l : List Nat}, rkB U j l ≤ l.length := by
  intro l
  induction l with
  | nil => exact Nat.le_refl _
  | cons a l ih =>
    unfold rkB at *
    rw [List.takeWhile_cons]
    split
    · rw [List.length_cons, List.length_cons]; omega
    · exact Nat.zero_le _
theorem rkB_lo {U : sU} {j : Nat} : ∀ {l : List Nat} {i : Nat}, i < rkB U j l → cbB U j (l.getD i 0) = false := by
  intro l
  induction l with
  | nil => intro i h; exact absurd h (Nat.not_lt_zero _)
  | cons a l ih =>
    intro i h
    unfold rkB at h ih
    rw [List.takeWhile_cons] at h
    split at h
    · rename_i ha
      cases i with
      | zero =>
        show cbB U j a = false
        simpa using ha
      | succ i =>
        rw [List.getD_cons_succ]
        exact ih (by rw [List.length_cons] at h; omega)
    · exact absurd h (Nat.not_lt_zero _)
theorem cbB_mono {U : sU} {j a b : Nat} (h : cbB U j a = true) (hab : ck U a b) : cbB U j b = true := by
  unfold cbB at *
  unfold ck at hab
  split at h
  · have h := of_decide_eq_true h
    split
    · exact decide_eq_true (by omega)
    · exact decide_eq_true (by omega)
  · have h := of_decide_eq_true h
    split
    · exact decide_eq_true (by omega)
    · exact decide_eq_true (by omega)
theorem rkB_hi {U : sU} {j : Nat} : ∀ {l : List Nat}, l.Pairwise (ck U) → ∀ {i : Nat}, rkB U j l ≤ i → i < l.length → cbB U j (l.getD i 0) = true := by
  intro l
  induction l with
  | nil => intro _ i _ h; exact absurd h (Nat.not_lt_zero _)
  | cons a l ih =>
    intro hp i h1 h2
    obtain ⟨hp1, hp2⟩ := List.pairwise_cons.mp hp
    unfold rkB at h1
    rw [List.takeWhile_cons] at h1
    split at h1
    · cases i with
      | zero => rw [List.length_cons] at h1; omega
      | succ i =>
        rw [List.getD_cons_succ]
        exact ih hp2 (by unfold rkB; rw [List.length_cons] at h1; omega) (by rw [List.length_cons] at h2; omega)
    · rename_i ha
      have ha : cbB U j a = true := by simpa using ha
      cases i with
      | zero => exact ha
      | succ i =>
        rw [List.getD_cons_succ]
        have h3 : i < l.length := by rw [List.length_cons] at h2; omega
        exact cbB_mono ha (hp1 (l.getD i 0) (by rw [getD_lt h3]; exact List.getElem_mem h3))
theorem od_ok (U : sU) : ∀ m, (od U m).Perm (List.range m) ∧ (od U m).Pairwise (ck U) := by
  intro m
  induction m with
  | zero => exact ⟨List.Perm.refl _, List.Pairwise.nil⟩
  | succ m ih =>
    obtain ⟨h6, h7⟩ := ih
    have hmem : ∀ a ∈ od U m, a < m := fun a ha => List.mem_range.mp (h6.mem_iff.mp ha)
    have hlo := fun {i} => @rkB_lo U m (od U m) i
    have hhi := fun {i} => @rkB_hi U m (od U m) h7 i
    rw [od]
    constructor
    · rw [List.range_succ]
      refine List.perm_middle.trans ?_
      rw [List.take_append_drop]
      exact (h6.cons _).trans (List.perm_append_singleton _ _).symm
    · refine List.pairwise_append.mpr ⟨h7.sublist (List.take_sublist _ _), List.pairwise_cons.mpr ⟨fun b hb => ?_, h7.sublist (List.drop_sublist _ _)⟩, fun a ha b hb => ?_⟩
      · obtain ⟨i, hi, rfl⟩ := List.getElem_of_mem hb
        rw [List.length_drop] at hi
        have h8 := hhi (i := rkB U m (od U m) + i) (by omega) (by omega)
        rw [getD_lt (by omega)] at h8
        rw [List.getElem_drop]
        unfold cbB at h8
        unfold ck
        split at h8
        · have := of_decide_eq_true h8; omega
        · have := of_decide_eq_true h8; omega
      · rcases List.mem_cons.mp hb with rfl | hb
        · have ha2 := hmem a (List.mem_of_mem_take ha)
          obtain ⟨i, hi, rfl⟩ := List.getElem_of_mem ha
          rw [List.length_take] at hi
          have h8 := hlo (i := i) (by omega)
          rw [getD_lt (by omega)] at h8
          rw [List.getElem_take] at ha2 ⊢
          unfold cbB at h8
          unfold ck
          split at h8
          · have := of_decide_eq_false h8; omega
          · have := of_decide_eq_false h8; omega
        · have h9 := h7
          rw [← List.take_append_drop (rkB U m (od U m)) (od U m)] at h9
          exact (List.pairwise_append.mp h9).2.2 a ha b hb
theorem od_len (U : sU) (m : Nat) : (od U m).length = m := by
  have := (od_ok U m).1.length_eq
  rw [List.length_range] at this
  exact this
theorem od_lt (U : sU) {m i : Nat} (hi : i < m) : (od U m).getD i 0 < m := by
  have hl := od_len U m
  rw [getD_lt (by omega)]
  exact List.mem_range.mp ((od_ok U m).1.mem_iff.mp (List.getElem_mem _))
/-- the writ at a rank -/
def ow (U : sU) (r : Nat) : Nat := (od U (un U)).getD r 0
/-- the docket of a set, night after night: how many, worth what -/
def vsr (U : sU) (f s : Nat) : Nat → Option (Nat × Nat)
  | 0 => some (0, 0)
  | r + 1 => match vsr U f s r with
    | none => none
    | some (c, v) => if s / 2 ^ (ow U r) % 2 = 1 then (if la U (ow U r) < f + c then none else some (c + 1, v + ba U (ow U r))) else some (c, v)
def vset (U : sU) (f s : Nat) : Nat := match vsr U f s (un U) with
  | none => 0
  | some (_, v) => v
def mxs (g : Nat → Nat) : Nat → Nat
  | 0 => 0
  | s + 1 => max (mxs g s) (g s)
/-- into a descending row -/
def insD (b : Nat) : List Nat → List Nat
  | [] => [b]
  | a :: l => if a < b then b :: a :: l else a :: insD b l
/-- the bails kept, in descending order, behind so many ranks -/
def gr (U : sU) (f : Nat) : Nat → List Nat
  | 0 => []
  | r + 1 => (insD (ba U (ow U r)) (gr U f r)).take (la U (ow U r) + 1 - f)
def L_D (τ : qq_R) (q : Nat) : Prop := 70 ≤ q ∧ tK τ q = (3, 0) ∧ tR τ q 0 = q + 1 ∧ tR τ q 1 = q + 2 ∧ tK τ (q + 1) = (100, 8) ∧ tK τ (q + 2) = (100, 8)
section DK
variable {d : Nat} {I : qq_I} {τ : qq_R} {p q : Nat} {U : sU}
theorem c_comesBefore (hL : L_W τ p) (hR : R_U I p U) (hw : wU U) {j x : Nat} (hj : j < un U) (hx : x < un U) : CC d 43 [.ref p, .int (iN j), .int (iN x)] (I, τ) = some (.inl (some (.int (if cbB U j x = true then iN 1 else iN 0))), (I, τ)) := by
  obtain ⟨hp, k0, k2, k3, k4, k5, k6, k7, q1, q2, q3, q4, q5, q6⟩ := hL
  obtain ⟨r0, r1, r2, r3, r4, r5, r6, r7⟩ := hR
  have w1 := hw.1
  have a1 := hw.2.2.2 j hj
  have a2 := hw.2.2.2 x hx
  rw [c_43, b_43_0]
  unfold cbB la ba
  by_cases h1 : w_la (ug U j) = w_la (ug U x)
  · by_cases h2 : w_ba (ug U x) < w_ba (ug U j)
    · simp (disch := omega) only [rd_I_mk, rd_R_mk, rd_L_mk, rd_D_mk, kd_mk, wr_I_mk, cp_mk, gd_true, bd_ret, bd_thr, vl_none, vl_some, iN_add, iN_mul, iN_sub, iN_lt, iN_eq, iN_n, iN_m1, iN_pred, vp_iN, K0_le, nr_b0, nr_b1, m1_lt, lt_m1, iN_ne_m1, m1_ne_iN, not_lt_z, true_and, and_true, and_self, or_true, true_or, or_false, false_or, if_true, if_false, ↓reduceIte, eq_self, up_at, up_a, up_k, cp_c, cp_b, Nat.zero_add, Nat.add_zero, Nat.sub_zero, Nat.le_refl, Nat.add_sub_cancel, fu_at, fu_ne, iN_nz, n10_f, n01_f, ofN, qq_at_100, k110b, Nat.lt_irrefl, Nat.not_lt_zero, ne_eq, not_false_eq_true, not_true_eq_false, k0, k4, k5, q3, q4, r4, r5, h1, h2, b_43_34, decide_eq_true_eq]
    · simp (disch := omega) only [rd_I_mk, rd_R_mk, rd_L_mk, rd_D_mk, kd_mk, wr_I_mk, cp_mk, gd_true, bd_ret, bd_thr, vl_none, vl_some, iN_add, iN_mul, iN_sub, iN_lt, iN_eq, iN_n, iN_m1, iN_pred, vp_iN, K0_le, nr_b0, nr_b1, m1_lt, lt_m1, iN_ne_m1, m1_ne_iN, not_lt_z, true_and, and_true, and_self, or_true, true_or, or_false, false_or, if_true, if_false, ↓reduceIte, eq_self, up_at, up_a, up_k, cp_c, cp_b, Nat.zero_add, Nat.add_zero, Nat.sub_zero, Nat.le_refl, Nat.add_sub_cancel, fu_at, fu_ne, iN_nz, n10_f, n01_f, ofN, qq_at_100, k110b, Nat.lt_irrefl, Nat.not_lt_zero, ne_eq, not_false_eq_true, not_true_eq_false, k0, k4, k5, q3, q4, r4, r5, h1, h2, b_43_34, decide_eq_true_eq]
  · by_cases h2 : w_la (ug U j) < w_la (ug U x)
    · simp (disch := omega) only [rd_I_mk, rd_R_mk, rd_L_mk, rd_D_mk, kd_mk, wr_I_mk, cp_mk, gd_true, bd_ret, bd_thr, vl_none, vl_some, iN_add, iN_mul, iN_sub, iN_lt, iN_eq, iN_n, iN_m1, iN_pred, vp_iN, K0_le, nr_b0, nr_b1, m1_lt, lt_m1, iN_ne_m1, m1_ne_iN, not_lt_z, true_and, and_true, and_self, or_true, true_or, or_false, false_or, if_true, if_false, ↓reduceIte, eq_self, up_at, up_a, up_k, cp_c, cp_b, Nat.zero_add, Nat.add_zero, Nat.sub_zero, Nat.le_refl, Nat.add_sub_cancel, fu_at, fu_ne, iN_nz, n10_f, n01_f, ofN, qq_at_100, k110b, Nat.lt_irrefl, Nat.not_lt_zero, ne_eq, not_false_eq_true, not_true_eq_false, k0, k4, k5, q3, q4, r4, r5, h1, h2, b_43_21, decide_eq_true_eq]
    · simp (disch := omega) only [rd_I_mk, rd_R_mk, rd_L_mk, rd_D_mk, kd_mk, wr_I_mk, cp_mk, gd_true, bd_ret, bd_thr, vl_none, vl_some, iN_add, iN_mul, iN_sub, iN_lt, iN_eq, iN_n, iN_m1, iN_pred, vp_iN, K0_le, nr_b0, nr_b1, m1_lt, lt_m1, iN_ne_m1, m1_ne_iN, not_lt_z, true_and, and_true, and_self, or_true, true_or, or_false, false_or, if_true, if_false, ↓reduceIte, eq_self, up_at, up_a, up_k, cp_c, cp_b, Nat.zero_add, Nat.add_zero, Nat.sub_zero, Nat.le_refl, Nat.add_sub_cancel, fu_at, fu_ne, iN_nz, n10_f, n01_f, ofN, qq_at_100, k110b, Nat.lt_irrefl, Nat.not_lt_zero, ne_eq, not_false_eq_true, not_true_eq_false, k0, k4, k5, q3, q4, r4, r5, h1, h2, b_43_21, decide_eq_true_eq]
theorem c_sort (hD : L_D τ q) (hL : L_W τ p) (hR : R_U I p U) (hw : wU U) (hne : p + 7 ≤ q ∨ q + 3 ≤ p) : ∃ I', CC (d + 1) 42 [.ref q, .ref p] (I, τ) = some (.inl none, (I', τ)) ∧ (∀ r, r < un U → I' (q + 1) r = iN (ow U r)) ∧ (∀ a, a ≠ q + 1 → I' a = I a) := by
  have hL0 := hL
  obtain ⟨hq, k0, k1, k2, q1, q2⟩ := hD
  obtain ⟨hp, l0, -⟩ := hL
  have w1 := hw.1
  have inner : ∀ n j (J : qq_I), j < un U → n ≤ j → (∀ a, a ≠ q + 1 → J a = I a) → (∀ i, i < n → rkB U j (od U j) ≤ n → J (q + 1) i = iN ((od U j).getD i 0)) → rkB U j (od U j) ≤ n → (∀ i, n < i → i ≤ j → J (q + 1) i = iN ((od U j).getD (i - 1) 0)) →
      ∃ J', RR (d + 1) 42 8 [some (.ref q), some (.ref p), some (.int (iN j)), some (.int (iN n))] [] (J, τ) = RR (d + 1) 42 2 [some (.ref q), some (.ref p), some (.int (iN (j + 1))), some (.int (iN (rkB U j (od U j))))] [] (J', τ) ∧
        (∀ a, a ≠ q + 1 → J' a = I a) ∧ (∀ i, i < j + 1 → J' (q + 1) i = iN ((od U (j + 1)).getD i 0)) := by
    intro n j J hj
    have hol := od_len U j
    have hle := @rkB_le U j (od U j)
    have hlo := fun {i} => @rkB_lo U j (od U j) i
    have hhi := fun {i} => @rkB_hi U j (od U j) (od_ok U j).2 i
    have hins := fun i => @ins_getD (od U j) (rkB U j (od U j)) j hle i
    generalize hz : rkB U j (od U j) = z at hle hlo hhi hins
    have fin : ∀ J : qq_I, z ≤ j → (∀ a, a ≠ q + 1 → J a = I a) → (∀ i, i < z → J (q + 1) i = iN ((od U j).getD i 0)) → (∀ i, z < i → i ≤ j → J (q + 1) i = iN ((od U j).getD (i - 1) 0)) →
        ∃ J', RR (d + 1) 42 32 [some (.ref q), some (.ref p), some (.int (iN j)), some (.int (iN z))] [] (J, τ) = RR (d + 1) 42 2 [some (.ref q), some (.ref p), some (.int (iN (j + 1))), some (.int (iN z))] [] (J', τ) ∧
          (∀ a, a ≠ q + 1 → J' a = I a) ∧ (∀ i, i < j + 1 → J' (q + 1) i = iN ((od U (j + 1)).getD i 0)) := by
      intro J hzj g1 g2 g3
      refine ⟨up_2 J (q + 1) z (iN j), ?_, fun a ha => by rw [up_c ha]; exact g1 a ha, fun i hi => ?_⟩
      · rw [b_42_32]
        simp (disch := omega) only [rd_I_mk, rd_R_mk, rd_L_mk, rd_D_mk, kd_mk, wr_I_mk, cp_mk, gd_true, bd_ret, bd_thr, vl_none, vl_some, iN_add, iN_mul, iN_sub, iN_lt, iN_eq, iN_n, iN_m1, iN_pred, vp_iN, K0_le, nr_b0, nr_b1, m1_lt, lt_m1, iN_ne_m1, m1_ne_iN, not_lt_z, true_and, and_true, and_self, or_true, true_or, or_false, false_or, if_true, if_false, ↓reduceIte, eq_self, up_at, up_a, up_k, cp_c, cp_b, Nat.zero_add, Nat.add_zero, Nat.sub_zero, Nat.le_refl, Nat.add_sub_cancel, fu_at, fu_ne, iN_nz, n10_f, n01_f, ofN, qq_at_100, k110b, Nat.lt_irrefl, Nat.not_lt_zero, ne_eq, not_false_eq_true, not_true_eq_false, k0, k1, q1, b_42_37]
      · rw [od, hz, hins]
        by_cases c1 : i < z
        · rw [if_pos c1, up_k (by omega), g2 i c1]
        · rw [if_neg c1]
          by_cases c2 : i = z
          · rw [if_pos c2, c2, up_at]
          · rw [if_neg c2, up_k c2, g3 i (by omega) (by omega)]
    induction n generalizing J with
    | zero =>
      intro hnj g1 g2 g3 g4
      have hz0 : z = 0 := by omega
      obtain ⟨J', t1, t2, t3⟩ := fin J (by omega) g1 (fun i hi => by omega) (fun i h1 h2 => g4 i (by omega) h2)
      refine ⟨J', ?_, t2, t3⟩
      rw [b_42_8, ← t1, hz0]
      simp (disch := omega) only [rd_I_mk, rd_R_mk, rd_L_mk, rd_D_mk, kd_mk, wr_I_mk, cp_mk, gd_true, bd_ret, bd_thr, vl_none, vl_some, iN_add, iN_mul, iN_sub, iN_lt, iN_eq, iN_n, iN_m1, iN_pred, vp_iN, K0_le, nr_b0, nr_b1, m1_lt, lt_m1, iN_ne_m1, m1_ne_iN, not_lt_z, true_and, and_true, and_self, or_true, true_or, or_false, false_or, if_true, if_false, ↓reduceIte, eq_self, up_at, up_a, up_k, cp_c, cp_b, Nat.zero_add, Nat.add_zero, Nat.sub_zero, Nat.le_refl, Nat.add_sub_cancel, fu_at, fu_ne, iN_nz, n10_f, n01_f, ofN, qq_at_100, k110b, Nat.lt_irrefl, Nat.not_lt_zero, ne_eq, not_false_eq_true, not_true_eq_false]
    | succ n ih =>
      intro hnj g1 g2 g3 g4
      have e1 := g2 n (by omega) g3
      have e2 : (od U j).getD n 0 < j := od_lt U (by omega)
      have hRJ : R_U J p U := R_U_same hR (fun a h1 h2 => g1 a (by omega))
      have hcb := c_comesBefore (d := d) hL0 hRJ hw hj (x := (od U j).getD n 0) (by omega)
      have e0 : 0 < n + 1 := by omega
      by_cases hzn : z ≤ n
      · have hc := hhi (i := n) hzn (by omega)
        rw [hc, if_pos rfl] at hcb
        obtain ⟨J', t1, t2, t3⟩ := ih (up_2 J (q + 1) (n + 1) (iN ((od U j).getD n 0))) (by omega) (fun a ha => by rw [up_c ha]; exact g1 a ha) (fun i hi _ => by rw [up_k (by omega)]; exact g2 i (by omega) g3) hzn (fun i h1 h2 => by
          by_cases ei : i = n + 1
          · rw [ei, up_at, Nat.add_sub_cancel]
          · rw [up_k ei]; exact g4 i (by omega) h2)
        refine ⟨J', ?_, t2, t3⟩
        rw [b_42_8]
        simp (disch := omega) only [rd_I_mk, rd_R_mk, rd_L_mk, rd_D_mk, kd_mk, wr_I_mk, cp_mk, gd_true, bd_ret, bd_thr, vl_none, vl_some, iN_add, iN_mul, iN_sub, iN_lt, iN_eq, iN_n, iN_m1, iN_pred, vp_iN, K0_le, nr_b0, nr_b1, m1_lt, lt_m1, iN_ne_m1, m1_ne_iN, not_lt_z, true_and, and_true, and_self, or_true, true_or, or_false, false_or, if_true, if_false, ↓reduceIte, eq_self, up_at, up_a, up_k, cp_c, cp_b, Nat.zero_add, Nat.add_zero, Nat.sub_zero, Nat.le_refl, Nat.add_sub_cancel, fu_at, fu_ne, iN_nz, n10_f, n01_f, ofN, qq_at_100, k110b, Nat.lt_irrefl, Nat.not_lt_zero, ne_eq, not_false_eq_true, not_true_eq_false, e0, k0, k1, q1, e1, hcb, b_42_19, b_42_30]
        exact t1
      · have hz1 : z = n + 1 := by omega
        have hc := hlo (i := n) (by omega)
        rw [hc, if_neg Bool.false_ne_true] at hcb
        obtain ⟨J', t1, t2, t3⟩ := fin J (by omega) g1 (fun i hi => g2 i (by omega) g3) (fun i h1 h2 => g4 i (by omega) h2)
        refine ⟨J', ?_, t2, t3⟩
        rw [b_42_8, ← t1, hz1]
        simp (disch := omega) only [rd_I_mk, rd_R_mk, rd_L_mk, rd_D_mk, kd_mk, wr_I_mk, cp_mk, gd_true, bd_ret, bd_thr, vl_none, vl_some, iN_add, iN_mul, iN_sub, iN_lt, iN_eq, iN_n, iN_m1, iN_pred, vp_iN, K0_le, nr_b0, nr_b1, m1_lt, lt_m1, iN_ne_m1, m1_ne_iN, not_lt_z, true_and, and_true, and_self, or_true, true_or, or_false, false_or, if_true, if_false, ↓reduceIte, eq_self, up_at, up_a, up_k, cp_c, cp_b, Nat.zero_add, Nat.add_zero, Nat.sub_zero, Nat.le_refl, Nat.add_sub_cancel, fu_at, fu_ne, iN_nz, n10_f, n01_f, ofN, qq_at_100, k110b, Nat.lt_irrefl, Nat.not_lt_zero, ne_eq, not_false_eq_true, not_true_eq_false, e0, k0, k1, q1, e1, hcb, b_42_19]
  have lp : ∀ m j (J : qq_I) (v : Option Value), j + m = un U → (∀ a, a ≠ q + 1 → J a = I a) → (∀ i, i < j → J (q + 1) i = iN ((od U j).getD i 0)) →
      ∃ I', RR (d + 1) 42 2 [some (.ref q), some (.ref p), some (.int (iN j)), v] [] (J, τ) = some (.inl none, (I', τ)) ∧ (∀ r, r < un U → I' (q + 1) r = iN (ow U r)) ∧ (∀ a, a ≠ q + 1 → I' a = I a) := by
    intro m
    induction m with
    | zero =>
      intro j J v hj g1 g2
      have e0 := g1 p (by omega)
      have e : ¬ j < un U := by omega
      refine ⟨J, ?_, fun r hr => by rw [g2 r (by omega)]; unfold ow; rw [show j = un U by omega], g1⟩
      rw [b_42_2]
      simp (disch := omega) only [rd_I_mk, rd_R_mk, rd_L_mk, rd_D_mk, kd_mk, wr_I_mk, cp_mk, gd_true, bd_ret, bd_thr, vl_none, vl_some, iN_add, iN_mul, iN_sub, iN_lt, iN_eq, iN_n, iN_m1, iN_pred, vp_iN, K0_le, nr_b0, nr_b1, m1_lt, lt_m1, iN_ne_m1, m1_ne_iN, not_lt_z, true_and, and_true, and_self, or_true, true_or, or_false, false_or, if_true, if_false, ↓reduceIte, eq_self, up_at, up_a, up_k, cp_c, cp_b, Nat.zero_add, Nat.add_zero, Nat.sub_zero, Nat.le_refl, Nat.add_sub_cancel, fu_at, fu_ne, iN_nz, n10_f, n01_f, ofN, qq_at_100, k110b, Nat.lt_irrefl, Nat.not_lt_zero, ne_eq, not_false_eq_true, not_true_eq_false, l0, e0, hR.1, e]
    | succ m ih =>
      intro j J v hj g1 g2
      have e0 := g1 p (by omega)
      have e : j < un U := by omega
      have hle := @rkB_le U j (od U j)
      rw [od_len] at hle
      obtain ⟨J', t1, t2, t3⟩ := inner j j J e (Nat.le_refl _) g1 (fun i hi _ => g2 i hi) hle (fun i h1 h2 => by omega)
      obtain ⟨I', s1, s2, s3⟩ := ih (j + 1) J' (some (.int (iN (rkB U j (od U j))))) (by omega) t2 t3
      refine ⟨I', ?_, s2, s3⟩
      rw [b_42_2]
      simp (disch := omega) only [rd_I_mk, rd_R_mk, rd_L_mk, rd_D_mk, kd_mk, wr_I_mk, cp_mk, gd_true, bd_ret, bd_thr, vl_none, vl_some, iN_add, iN_mul, iN_sub, iN_lt, iN_eq, iN_n, iN_m1, iN_pred, vp_iN, K0_le, nr_b0, nr_b1, m1_lt, lt_m1, iN_ne_m1, m1_ne_iN, not_lt_z, true_and, and_true, and_self, or_true, true_or, or_false, false_or, if_true, if_false, ↓reduceIte, eq_self, up_at, up_a, up_k, cp_c, cp_b, Nat.zero_add, Nat.add_zero, Nat.sub_zero, Nat.le_refl, Nat.add_sub_cancel, fu_at, fu_ne, iN_nz, n10_f, n01_f, ofN, qq_at_100, k110b, Nat.lt_irrefl, Nat.not_lt_zero, ne_eq, not_false_eq_true, not_true_eq_false, l0, e0, hR.1, e]
      rw [t1]; exact s1
  rw [c_42, b_42_0]
  exact lp (un U) 0 I none (by omega) (fun _ _ => rfl) (fun i hi => by omega)
theorem ow_lt {r : Nat} (h : r < un U) : ow U r < un U := od_lt U h
theorem c_positionAtRank (hD : L_D τ q) (hL : L_W τ p) (hR : R_U I p U) (hw : wU U) (hne : p + 7 ≤ q ∨ q + 3 ≤ p) {r : Nat} (hr : r < un U) : ∃ I', CC (d + 2) 37 [.ref q, .ref p, .int (iN r)] (I, τ) = some (.inl (some (.int (iN (ow U r)))), (I', τ)) ∧ Fr q 3 I I' := by
  obtain ⟨I', h1, h2, h3⟩ := c_sort (d := d) hD hL hR hw hne
  obtain ⟨hq, k0, k1, k2, q1, q2⟩ := hD
  have w1 := hw.1
  refine ⟨I', ?_, fun a ha => h3 a (by omega)⟩
  rw [c_37, b_37_0]
  simp (disch := omega) only [rd_I_mk, rd_R_mk, rd_L_mk, rd_D_mk, kd_mk, wr_I_mk, cp_mk, gd_true, bd_ret, bd_thr, vl_none, vl_some, iN_add, iN_mul, iN_sub, iN_lt, iN_eq, iN_n, iN_m1, iN_pred, vp_iN, K0_le, nr_b0, nr_b1, m1_lt, lt_m1, iN_ne_m1, m1_ne_iN, not_lt_z, true_and, and_true, and_self, or_true, true_or, or_false, false_or, if_true, if_false, ↓reduceIte, eq_self, up_at, up_a, up_k, cp_c, cp_b, Nat.zero_add, Nat.add_zero, Nat.sub_zero, Nat.le_refl, Nat.add_sub_cancel, fu_at, fu_ne, iN_nz, n10_f, n01_f, ofN, qq_at_100, k110b, Nat.lt_irrefl, Nat.not_lt_zero, ne_eq, not_false_eq_true, not_true_eq_false, k0, h1, b_37_3, k1, q1, h2]
theorem vsr_le (hw : wU U) {f s : Nat} : ∀ r c v, r ≤ un U → vsr U f s r = some (c, v) → c ≤ r ∧ v ≤ 60 * r := by
  intro r
  induction r with
  | zero => intro c v _ h; cases h; exact ⟨Nat.le_refl _, Nat.le_refl _⟩
  | succ r ih =>
    intro c v hr h
    rw [vsr] at h
    have hb := (hw.2.2.2 _ (ow_lt (show r < un U by omega))).2.2.2.1
    split at h
    · cases h
    · rename_i c1 v1 h1
      obtain ⟨i1, i2⟩ := ih c1 v1 (by omega) h1
      split at h
      · split at h
        · cases h
        · cases h
          unfold ba
          exact ⟨by omega, by omega⟩
      · cases h; exact ⟨by omega, by omega⟩
theorem c_valueOfSet (hD : L_D τ q) (hL : L_W τ p) (hR : R_U I p U) (hw : wU U) (hO : ∀ r, r < un U → I (q + 1) r = iN (ow U r)) {f s : Nat} (hf : f < 1000000) (hs : s < 256) : CC d 41 [.ref q, .ref p, .int (iN f), .int (iN s)] (I, τ) = some (.inl (some (.int (iN (vset U f s)))), (I, τ)) := by
  obtain ⟨hq, k0, k1, k2, q1, q2⟩ := hD
  obtain ⟨hp, l0, l2, l3, l4, l5, l6, l7, i1, i2, i3, i4, i5, i6⟩ := hL
  obtain ⟨r0, r1, r2, r3, r4, r5, r6, r7⟩ := hR
  have w1 := hw.1
  have w4 := hw.2.2.2
  have dead : ∀ m r, r + m = un U → vsr U f s r = none → vsr U f s (un U) = none := by
    intro m
    induction m with
    | zero => intro r hr h; rw [show un U = r by omega]; exact h
    | succ m ih => intro r hr h; exact ih (r + 1) (by omega) (by rw [vsr, h])
  have lp : ∀ m r c v (u : Option Value), r + m = un U → vsr U f s r = some (c, v) → RR d 41 6 [some (.ref q), some (.ref p), some (.int (iN f)), some (.int (iN s)), some (.int (iN (f + c))), some (.int (iN v)), some (.int (iN r)), u] [] (I, τ) = some (.inl (some (.int (iN (vset U f s)))), (I, τ)) := by
    intro m
    induction m with
    | zero =>
      intro r c v u hr h
      have e : ¬ r < un U := by omega
      rw [b_41_6]
      simp (disch := omega) only [rd_I_mk, rd_R_mk, rd_L_mk, rd_D_mk, kd_mk, wr_I_mk, cp_mk, gd_true, bd_ret, bd_thr, vl_none, vl_some, iN_add, iN_mul, iN_sub, iN_lt, iN_eq, iN_n, iN_m1, iN_pred, vp_iN, K0_le, nr_b0, nr_b1, m1_lt, lt_m1, iN_ne_m1, m1_ne_iN, not_lt_z, true_and, and_true, and_self, or_true, true_or, or_false, false_or, if_true, if_false, ↓reduceIte, eq_self, up_at, up_a, up_k, cp_c, cp_b, Nat.zero_add, Nat.add_zero, Nat.sub_zero, Nat.le_refl, Nat.add_sub_cancel, fu_at, fu_ne, iN_nz, n10_f, n01_f, ofN, qq_at_100, k110b, Nat.lt_irrefl, Nat.not_lt_zero, ne_eq, not_false_eq_true, not_true_eq_false, l0, r0, e]
      unfold vset
      rw [show un U = r by omega, h]
    | succ m ih =>
      intro r c v u hr h
      have e : r < un U := by omega
      have e1 := ow_lt e
      have e2 := w4 _ e1
      obtain ⟨c1, c2⟩ := vsr_le hw r c v (by omega) h
      have hnx : vsr U f s (r + 1) = if s / 2 ^ (ow U r) % 2 = 1 then (if la U (ow U r) < f + c then none else some (c + 1, v + ba U (ow U r))) else some (c, v) := by rw [vsr, h]
      have hp2 : s / 2 ^ (ow U r) % 2 < 2 := Nat.mod_lt _ (by decide)
      have hp3 : s / 2 ^ (ow U r) ≤ s := Nat.div_le_self _ _
      rw [b_41_6]
      by_cases h1 : s / 2 ^ (ow U r) % 2 = 1
      · rw [if_pos h1] at hnx
        by_cases h2 : w_la (ug U (ow U r)) < f + c
        · rw [if_pos (by exact h2)] at hnx
          simp (disch := omega) only [rd_I_mk, rd_R_mk, rd_L_mk, rd_D_mk, kd_mk, wr_I_mk, cp_mk, gd_true, bd_ret, bd_thr, vl_none, vl_some, iN_add, iN_mul, iN_sub, iN_lt, iN_eq, iN_n, iN_m1, iN_pred, vp_iN, K0_le, nr_b0, nr_b1, m1_lt, lt_m1, iN_ne_m1, m1_ne_iN, not_lt_z, true_and, and_true, and_self, or_true, true_or, or_false, false_or, if_true, if_false, ↓reduceIte, eq_self, up_at, up_a, up_k, cp_c, cp_b, Nat.zero_add, Nat.add_zero, Nat.sub_zero, Nat.le_refl, Nat.add_sub_cancel, fu_at, fu_ne, iN_nz, n10_f, n01_f, ofN, qq_at_100, k110b, Nat.lt_irrefl, Nat.not_lt_zero, ne_eq, not_false_eq_true, not_true_eq_false, l0, r0, e, k0, k1, q1, hO, iN_shr, iN_and1, h1, l4, i3, r4, h2]
          unfold vset
          rw [dead m (r + 1) (by omega) hnx]
        · rw [if_neg (by exact h2)] at hnx
          simp (disch := omega) only [rd_I_mk, rd_R_mk, rd_L_mk, rd_D_mk, kd_mk, wr_I_mk, cp_mk, gd_true, bd_ret, bd_thr, vl_none, vl_some, iN_add, iN_mul, iN_sub, iN_lt, iN_eq, iN_n, iN_m1, iN_pred, vp_iN, K0_le, nr_b0, nr_b1, m1_lt, lt_m1, iN_ne_m1, m1_ne_iN, not_lt_z, true_and, and_true, and_self, or_true, true_or, or_false, false_or, if_true, if_false, ↓reduceIte, eq_self, up_at, up_a, up_k, cp_c, cp_b, Nat.zero_add, Nat.add_zero, Nat.sub_zero, Nat.le_refl, Nat.add_sub_cancel, fu_at, fu_ne, iN_nz, n10_f, n01_f, ofN, qq_at_100, k110b, Nat.lt_irrefl, Nat.not_lt_zero, ne_eq, not_false_eq_true, not_true_eq_false, l0, r0, e, k0, k1, q1, hO, iN_shr, iN_and1, h1, l4, i3, r4, h2, l5, i4, r5, b_41_38]
          have := ih (r + 1) (c + 1) (v + ba U (ow U r)) (some (.int (iN (ow U r)))) (by omega) hnx
          exact this
      · rw [if_neg h1] at hnx
        simp (disch := omega) only [rd_I_mk, rd_R_mk, rd_L_mk, rd_D_mk, kd_mk, wr_I_mk, cp_mk, gd_true, bd_ret, bd_thr, vl_none, vl_some, iN_add, iN_mul, iN_sub, iN_lt, iN_eq, iN_n, iN_m1, iN_pred, vp_iN, K0_le, nr_b0, nr_b1, m1_lt, lt_m1, iN_ne_m1, m1_ne_iN, not_lt_z, true_and, and_true, and_self, or_true, true_or, or_false, false_or, if_true, if_false, ↓reduceIte, eq_self, up_at, up_a, up_k, cp_c, cp_b, Nat.zero_add, Nat.add_zero, Nat.sub_zero, Nat.le_refl, Nat.add_sub_cancel, fu_at, fu_ne, iN_nz, n10_f, n01_f, ofN, qq_at_100, k110b, Nat.lt_irrefl, Nat.not_lt_zero, ne_eq, not_false_eq_true, not_true_eq_false, l0, r0, e, k0, k1, q1, hO, iN_shr, iN_and1, h1, b_41_38]
        exact ih (r + 1) c v _ (by omega) hnx
  rw [c_41, b_41_0]
  exact lp (un U) 0 0 0 none (by omega) rfl
theorem vset_le (hw : wU U) {f s : Nat} : vset U f s ≤ 480 := by
  unfold vset
  have w1 := hw.1
  split
  · omega
  · rename_i c v h
    have := (vsr_le hw _ _ _ (Nat.le_refl _) h).2
    omega
theorem mxs_le {g : Nat → Nat} {B : Nat} (h : ∀ s, g s ≤ B) : ∀ n, mxs g n ≤ B := by
  intro n
  induction n with
  | zero => exact Nat.zero_le _
  | succ n ih => rw [mxs]; exact Nat.max_le.mpr ⟨ih, h n⟩
theorem c_tryingSets (hD : L_D τ q) (hL : L_W τ p) (hR : R_U I p U) (hw : wU U) (hne : p + 7 ≤ q ∨ q + 3 ≤ p) {f : Nat} (hf : f < 1000000) : ∃ I', CC (d + 2) 40 [.ref q, .ref p, .int (iN f)] (I, τ) = some (.inl (some (.int (iN (mxs (vset U f) (2 ^ un U))))), (I', τ)) ∧ Fr q 3 I I' := by
  obtain ⟨I', h1, h2, h3⟩ := c_sort (d := d) hD hL hR hw hne
  have hRI : R_U I' p U := R_U_same hR (fun a e1 e2 => h3 a (by omega))
  have hvs := fun s (hs : s < 256) => c_valueOfSet (d := d + 1) hD hL hRI hw h2 (f := f) (s := s) hf hs
  have hD0 := hD
  obtain ⟨hq, k0, k1, k2, q1, q2⟩ := hD
  obtain ⟨hp, l0, -⟩ := hL
  have w1 := hw.1
  have hp8 : 2 ^ un U ≤ 256 := p2_le (k := un U) (n := 8) w1
  have hmx := fun n => mxs_le (g := vset U f) (B := 480) (fun s => vset_le hw) n
  refine ⟨I', ?_, fun a ha => h3 a (by omega)⟩
  have lp : ∀ m s, s + m = 2 ^ un U → RR (d + 1 + 1) 40 7 [some (.ref q), some (.ref p), some (.int (iN f)), some (.int (iN (mxs (vset U f) s))), some (.int (iN s))] [] (I', τ) = some (.inl (some (.int (iN (mxs (vset U f) (2 ^ un U))))), (I', τ)) := by
    intro m
    induction m with
    | zero =>
      intro s hs
      rw [b_40_7]
      have e : ¬ s < 2 ^ un U := by omega
      simp (disch := omega) only [rd_I_mk, rd_R_mk, rd_L_mk, rd_D_mk, kd_mk, wr_I_mk, cp_mk, gd_true, bd_ret, bd_thr, vl_none, vl_some, iN_add, iN_mul, iN_sub, iN_lt, iN_eq, iN_n, iN_m1, iN_pred, vp_iN, K0_le, nr_b0, nr_b1, m1_lt, lt_m1, iN_ne_m1, m1_ne_iN, not_lt_z, true_and, and_true, and_self, or_true, true_or, or_false, false_or, if_true, if_false, ↓reduceIte, eq_self, up_at, up_a, up_k, cp_c, cp_b, Nat.zero_add, Nat.add_zero, Nat.sub_zero, Nat.le_refl, Nat.add_sub_cancel, fu_at, fu_ne, iN_nz, n10_f, n01_f, ofN, qq_at_100, k110b, Nat.lt_irrefl, Nat.not_lt_zero, ne_eq, not_false_eq_true, not_true_eq_false, l0, hRI.1, iN_shl, Nat.one_mul, e]
      rw [show s = 2 ^ un U by omega]
    | succ m ih =>
      intro s hs
      rw [b_40_7]
      have e : s < 2 ^ un U := by omega
      have e1 := hmx s
      have e2 := @vset_le U hw f s
      simp (disch := omega) only [rd_I_mk, rd_R_mk, rd_L_mk, rd_D_mk, kd_mk, wr_I_mk, cp_mk, gd_true, bd_ret, bd_thr, vl_none, vl_some, iN_add, iN_mul, iN_sub, iN_lt, iN_eq, iN_n, iN_m1, iN_pred, vp_iN, K0_le, nr_b0, nr_b1, m1_lt, lt_m1, iN_ne_m1, m1_ne_iN, not_lt_z, true_and, and_true, and_self, or_true, true_or, or_false, false_or, if_true, if_false, ↓reduceIte, eq_self, up_at, up_a, up_k, cp_c, cp_b, Nat.zero_add, Nat.add_zero, Nat.sub_zero, Nat.le_refl, Nat.add_sub_cancel, fu_at, fu_ne, iN_nz, n10_f, n01_f, ofN, qq_at_100, k110b, Nat.lt_irrefl, Nat.not_lt_zero, ne_eq, not_false_eq_true, not_true_eq_false, l0, hRI.1, iN_shl, Nat.one_mul, e, k0, hvs, b_40_19, iN_mx]
      exact ih (s + 1) (by omega)
  rw [c_40, b_40_0]
  simp (disch := omega) only [rd_I_mk, rd_R_mk, rd_L_mk, rd_D_mk, kd_mk, wr_I_mk, cp_mk, gd_true, bd_ret, bd_thr, vl_none, vl_some, iN_add, iN_mul, iN_sub, iN_lt, iN_eq, iN_n, iN_m1, iN_pred, vp_iN, K0_le, nr_b0, nr_b1, m1_lt, lt_m1, iN_ne_m1, m1_ne_iN, not_lt_z, true_and, and_true, and_self, or_true, true_or, or_false, false_or, if_true, if_false, ↓reduceIte, eq_self, up_at, up_a, up_k, cp_c, cp_b, Nat.zero_add, Nat.add_zero, Nat.sub_zero, Nat.le_refl, Nat.add_sub_cancel, fu_at, fu_ne, iN_nz, n10_f, n01_f, ofN, qq_at_100, k110b, Nat.lt_irrefl, Nat.not_lt_zero, ne_eq, not_false_eq_true, not_true_eq_false, k0, h1, b_40_3]
  exact lp (2 ^ un U) 0 (by omega)
end DK
