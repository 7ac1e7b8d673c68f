/-! STRING BUILDERS: appending, clearing, reading -/
/-- n as decimal digits -/
def dg (n : Nat) : List Nat := if n < 10 then [48 + n] else dg (n / 10) ++ [48 + n % 10]
termination_by n
decreasing_by omega
theorem dg_s {n : Nat} (h : n < 10) : dg n = [48 + n] := by rw [dg, if_pos h]
theorem dg_l {n : Nat} (h : ¬ n < 10) : dg n = dg (n / 10) ++ [48 + n % 10] := by rw [dg, if_neg h]
theorem dg_h {n : Nat} (h : ¬ n < 100) : dg n = dg (n / 100) ++ [48 + n % 100 / 10, 48 + n % 100 % 10] := by
  rw [dg_l (by omega), dg_l (show ¬ n / 10 < 10 by omega), Nat.div_div_eq_div_mul, List.append_assoc]
  have e1 : n / 10 % 10 = n % 100 / 10 := by omega
  have e2 : n % 10 = n % 100 % 10 := by omega
  rw [e1, e2]; rfl
theorem dg_m {n : Nat} (h : ¬ n < 10) (h2 : n < 100) : dg n = [48 + n / 10, 48 + n % 10] := by
  rw [dg_l h, dg_s (by omega)]; rfl
theorem dg_len : ∀ k n, 1 ≤ k → n < 10 ^ k → (k = 1 ∨ 10 ^ (k - 1) ≤ n) → (dg n).length = k := by
  intro k
  induction k with
  | zero => intro n h; omega
  | succ k ih =>
    intro n _ h1 h2
    by_cases e : k = 0
    · subst e
      rw [dg_s (by simpa using h1)]; rfl
    · have h3 : 10 ^ k ≤ n := by
        rcases h2 with h | h
        · omega
        · exact h
      obtain ⟨j, rfl⟩ : ∃ j, k = j + 1 := ⟨k - 1, by omega⟩
      have h4 : 10 ^ (j + 1) = 10 ^ j * 10 := Nat.pow_succ ..
      have h5 : 10 ^ (j + 1 + 1) = 10 ^ (j + 1) * 10 := Nat.pow_succ ..
      have h6 : 0 < 10 ^ j := Nat.pow_pos (by omega)
      rw [dg_l (by omega), List.length_append, ih (n / 10) (by omega) (by omega) (by
        rcases Nat.eq_zero_or_pos j with q | q
        · exact Or.inl (by omega)
        · right
          show 10 ^ j ≤ n / 10
          omega)]
      rfl
theorem dg_c (n : Nat) : ∀ c ∈ dg n, 48 ≤ c ∧ c < 58 := by
  induction n using Nat.strongRecOn with
  | ind n ih =>
    intro c hc
    by_cases h : n < 10
    · rw [dg_s h, List.mem_singleton] at hc; omega
    · rw [dg_l h, List.mem_append, List.mem_singleton] at hc
      rcases hc with hc | hc
      · exact ih _ (by omega) c hc
      · omega
def nZ (n : Nat) : Int32 := zI (-(n : Int))
theorem nZ_neg (n : Nat) : -iN n = nZ n := by
  rw [iN_oi]; exact (Int32.ofInt_neg _).symm
theorem neg_nZ (n : Nat) : -nZ n = iN n := by rw [← nZ_neg, Int32.neg_neg]
theorem nZ_lt {a b : Nat} (ha : a < 1000000) (hb : b < 1000000) : (nZ a < nZ b) = (b < a) := by
  unfold nZ
  rw [zI_lt (by omega) (by omega)]
  exact propext ⟨fun h => by omega, fun h => by omega⟩
theorem nZ_div {n : Nat} (h : n < 1000000) : nZ n / iN 100 = nZ (n / 100) := by
  refine Int32.toInt_inj.mp ?_
  rw [Int32.toInt_div_of_ne_right _ _ (by decide)]
  unfold nZ zI
  rw [Int32.toInt_ofInt_of_le (by omega) (by omega), iN_toInt (by omega), Int32.toInt_ofInt_of_le (by omega) (by omega), Int.neg_tdiv]
  rfl
theorem nZ_mod {n : Nat} (h : n < 1000000) : nZ (n / 100) * iN 100 - nZ n = iN (n % 100) := by
  rw [iN_oi, iN_oi]
  unfold nZ zI
  rw [← Int32.ofInt_mul, ← Int32.ofInt_sub]
  congr 1
  omega
/-- the constants that digits come from -/
def KD (I : qq_I) (τ : qq_R) : Prop := tK τ 68 = (102, 100) ∧ tK τ 69 = (102, 100) ∧ (∀ i, i < 100 → I 68 i = iN (48 + i / 10)) ∧ (∀ i, i < 100 → I 69 i = iN (48 + i % 10))
theorem n100_0 : (iN 100 = 0) = False := eq_false (by decide)
theorem neg_100 : Int32.ofInt (-100) = nZ 100 := rfl
theorem neg_9 : Int32.ofInt (-9) = nZ 9 := rfl
theorem neg_10 : Int32.ofInt (-10) = nZ 10 := rfl
section AP
variable {d : Nat} {I : qq_I} {τ : qq_R} {s Z : Nat} {l : List Nat}
theorem c_stringSize {n : Nat} (hn : n < 1000000) : CC d 21 [.int (iN n)] (I, τ) = some (.inl (some (.int (iN (dg n).length))), (I, τ)) := by
  have lp : ∀ m k, k + m = 7 → 1 ≤ k → (k = 1 ∨ 10 ^ (k - 1) ≤ n) → RR d 21 13 [some (.int (nZ n)), some (.int (iN 0)), some (.int (nZ (10 ^ k))), some (.int (iN k))] [] (I, τ) = some (.inl (some (.int (iN (dg n).length))), (I, τ)) := by
    intro m
    induction m with
    | zero =>
      intro k hk h1 h2
      have hk : k = 7 := hk
      subst hk
      exact absurd h2 (by simp; omega)
    | succ m ih =>
      intro k hk h1 h2
      have e1 : (iN k < iN 10) = True := (iN_lt (by omega) (by omega)).trans (eq_true (by omega))
      rw [b_21_13]
      have hp : 10 ^ k ≤ 10 ^ 6 := Nat.pow_le_pow_right (by omega) (by omega)
      have hp0 : 0 < 10 ^ k := Nat.pow_pos (by omega)
      by_cases q : n < 10 ^ k
      · rw [dg_len k n h1 q h2]
        have e2 : (nZ (10 ^ k) < nZ n) = True := by
          refine eq_true ?_
          unfold nZ
          rw [show (zI (-((10 ^ k : Nat) : Int)) < zI (-(n : Int))) = (-((10 ^ k : Nat) : Int) < -(n : Int)) from ?_]
          · omega
          · unfold zI
            rw [Int32.lt_iff_toInt_lt, Int32.toInt_ofInt_of_le (by omega) (by omega), Int32.toInt_ofInt_of_le (by omega) (by omega)]
        simp only [e1, e2, if_true, iN_add, Nat.add_zero]
      · have e2 : (nZ (10 ^ k) < nZ n) = False := by
          refine eq_false (fun z => ?_)
          unfold nZ zI at z
          rw [Int32.lt_iff_toInt_lt, Int32.toInt_ofInt_of_le (by omega) (by omega), Int32.toInt_ofInt_of_le (by omega) (by omega)] at z
          omega
        have e3 : iN 10 * nZ (10 ^ k) = nZ (10 ^ (k + 1)) := by
          rw [iN_oi]
          unfold nZ zI
          rw [← Int32.ofInt_mul, Nat.pow_succ]
          congr 1
          push_cast
          omega
        simp only [e1, e2, if_true, if_false, e3, iN_add]
        exact ih (k + 1) (by omega) (by omega) (Or.inr (by show 10 ^ k ≤ n; omega))
  rw [c_21, b_21_0]
  simp only [not_lt_z (a := n) (by omega), if_false, nZ_neg, b_21_9, neg_10]
  exact lp 6 1 rfl (Nat.le_refl _) (Or.inl rfl)
/-- digits go in from the back -/
theorem c_getChars (hK : KD I τ) {v N : Nat} (hv : 70 ≤ v) (hvK : tK τ v = (102, N)) (hN : N < 1000000) {n e : Nat} (hn : n < 1000000) (he : (dg n).length ≤ e) (heN : e ≤ N) :
    ∃ I' x, CC d 22 [.int (iN n), .int (iN e), .ref v] (I, τ) = some (.inl (some (.int x)), (I', τ)) ∧ (∀ a, a ≠ v → I' a = I a) ∧ (∀ i, i < N → (i < e - (dg n).length ∨ e ≤ i) → I' v i = I v i) ∧ (∀ i (h : i < (dg n).length), I' v (e - (dg n).length + i) = iN (dg n)[i]) := by
  obtain ⟨k8, k9, t8, t9⟩ := hK
  have hw : ∀ b, b < 128 → vp_nar (if (102 : Nat) = 101 then FieldType.boolean else FieldType.byte) (iN b) = iN b := fun b hb => by
    rw [if_neg (by omega)]; exact by_c b hb
  have h68 : v ≠ 68 := by omega
  have h69 : v ≠ 69 := by omega
  have kv : K0_le hv = K0_le hv := rfl
  have lp : ∀ m n e (J : qq_I) (x1 : Int32) (u3 u4 : Option Value), n < m → n < 1000000 → (dg n).length ≤ e → e ≤ N → (∀ a, a ≠ v → J a = I a) → (u4 = none ∨ ∃ y, u4 = some (.int y)) →
      ∃ I' x, RR d 22 13 [some (.int (nZ n)), some (.int x1), some (.ref v), u3, u4, some (.int (iN e)), some (.int (iN 0))] [] (J, τ) = some (.inl (some (.int x)), (I', τ)) ∧ (∀ a, a ≠ v → I' a = I a) ∧ (∀ i, i < N → (i < e - (dg n).length ∨ e ≤ i) → I' v i = J v i) ∧ (∀ i (h : i < (dg n).length), I' v (e - (dg n).length + i) = iN (dg n)[i]) := by
    intro m
    induction m with
    | zero => intro n e J x1 u3 u4 h; omega
    | succ m ih =>
      intro n e J x1 u3 u4 hnm hn he heN hJ hu
      have j8 : J 68 = I 68 := hJ 68 (by omega)
      have j9 : J 69 = I 69 := hJ 69 (by omega)
      have e00 : (dg n).length ≤ e := he
      have e01 : 1 ≤ (dg n).length := by
        by_cases q : n < 10
        · rw [dg_s q]; exact Nat.le_refl _
        · rw [dg_l q, List.length_append]; exact Nat.le_add_left _ _
      by_cases q : n < 100
      · have c1 : (nZ 100 < nZ n) = True := (nZ_lt (by omega) (by omega)).trans (eq_true q)
        have w1 : J 69 n = iN (48 + n % 10) := by rw [j9]; exact t9 n q
        have hw1 := hw (48 + n % 10) (by omega)
        have st1 : RR d 22 13 [some (.int (nZ n)), some (.int x1), some (.ref v), u3, u4, some (.int (iN e)), some (.int (iN 0))] [] (J, τ) = RR d 22 51 [some (.int (nZ n)), some (.int x1), some (.ref v), u3, u4, some (.int (iN (e - 1))), some (.int (iN 0))] [] (up_2 J v (e - 1) (iN (48 + n % 10)), τ) := by
          rcases hu with rfl | ⟨y, rfl⟩
          · rw [b_22_13n, neg_100, neg_nZ]
            simp (disch := omega) only [rd_I_mk, rd_R_mk, rd_L_mk, rd_D_mk, kd_mk, wr_I_mk, cp_mk, gd_true, bd_ret, bd_thr, vl_none, vl_some, iN_add, iN_mul, iN_sub, iN_lt, iN_eq, iN_n, iN_m1, iN_pred, vp_iN, K0_le, nr_b0, nr_b1, m1_lt, lt_m1, iN_ne_m1, m1_ne_iN, not_lt_z, true_and, and_true, and_self, or_true, true_or, or_false, false_or, if_true, if_false, ↓reduceIte, eq_self, up_at, up_a, up_k, cp_c, cp_b, Nat.zero_add, Nat.add_zero, Nat.sub_zero, Nat.le_refl, Nat.add_sub_cancel, fu_at, fu_ne, iN_nz, n10_f, n01_f, ofN, qq_at_100, k110b, Nat.lt_irrefl, Nat.not_lt_zero, ne_eq, not_false_eq_true, not_true_eq_false, c1, k9, hvK, w1, hw1]
          · rw [b_22_13i, neg_100, neg_nZ]
            simp (disch := omega) only [rd_I_mk, rd_R_mk, rd_L_mk, rd_D_mk, kd_mk, wr_I_mk, cp_mk, gd_true, bd_ret, bd_thr, vl_none, vl_some, iN_add, iN_mul, iN_sub, iN_lt, iN_eq, iN_n, iN_m1, iN_pred, vp_iN, K0_le, nr_b0, nr_b1, m1_lt, lt_m1, iN_ne_m1, m1_ne_iN, not_lt_z, true_and, and_true, and_self, or_true, true_or, or_false, false_or, if_true, if_false, ↓reduceIte, eq_self, up_at, up_a, up_k, cp_c, cp_b, Nat.zero_add, Nat.add_zero, Nat.sub_zero, Nat.le_refl, Nat.add_sub_cancel, fu_at, fu_ne, iN_nz, n10_f, n01_f, ofN, qq_at_100, k110b, Nat.lt_irrefl, Nat.not_lt_zero, ne_eq, not_false_eq_true, not_true_eq_false, c1, k9, hvK, w1, hw1]
        have fin : ∀ (K : qq_I) f, RR d 22 62 [some (.int (nZ n)), some (.int x1), some (.ref v), u3, u4, some (.int (iN f)), some (.int (iN 0))] [] (K, τ) = some (.inl (some (.int (iN f))), (K, τ)) := fun K f => by
          rcases hu with rfl | ⟨y, rfl⟩
          · rw [b_22_62n, if_pos rfl, b_22_69]
          · rw [b_22_62i, if_pos rfl, b_22_69]
        by_cases q2 : n < 10
        · have c2 : (nZ n < nZ 9) = False := (nZ_lt (by omega) (by omega)).trans (eq_false (by omega))
          have st2 : RR d 22 51 [some (.int (nZ n)), some (.int x1), some (.ref v), u3, u4, some (.int (iN (e - 1))), some (.int (iN 0))] [] (up_2 J v (e - 1) (iN (48 + n % 10)), τ) = RR d 22 62 [some (.int (nZ n)), some (.int x1), some (.ref v), u3, u4, some (.int (iN (e - 1))), some (.int (iN 0))] [] (up_2 J v (e - 1) (iN (48 + n % 10)), τ) := by
            rcases hu with rfl | ⟨y, rfl⟩
            · rw [b_22_51n, neg_9]
              simp only [c2, if_false]
            · rw [b_22_51i, neg_9]
              simp only [c2, if_false]
          refine ⟨_, _, st1.trans (st2.trans (fin _ _)), fun a ha => by rw [up_c ha]; exact hJ a ha, fun i hi h => ?_, fun i hi => ?_⟩
          · rw [dg_s q2] at h
            have h : i < e - 1 ∨ e ≤ i := h
            rw [up_k (by omega)]
          · have hd : dg n = [48 + n] := dg_s q2
            have hl : (dg n).length = 1 := by rw [hd]; rfl
            have hi0 : i = 0 := by omega
            subst hi0
            rw [show e - (dg n).length + 0 = e - 1 by omega, up_at]
            simp only [hd, List.getElem_cons_zero]
            rw [Nat.mod_eq_of_lt q2]
        · have c2 : (nZ n < nZ 9) = True := (nZ_lt (by omega) (by omega)).trans (eq_true (by omega))
          have hd : dg n = [48 + n / 10, 48 + n % 10] := dg_m q2 q
          have hl : (dg n).length = 2 := by rw [hd]; rfl
          have w2 : J 68 n = iN (48 + n / 10) := by rw [j8]; exact t8 n q
          have hw2 := hw (48 + n / 10) (by omega)
          have st2 : RR d 22 51 [some (.int (nZ n)), some (.int x1), some (.ref v), u3, u4, some (.int (iN (e - 1))), some (.int (iN 0))] [] (up_2 J v (e - 1) (iN (48 + n % 10)), τ) = RR d 22 62 [some (.int (nZ n)), some (.int x1), some (.ref v), u3, u4, some (.int (iN (e - 1 - 1))), some (.int (iN 0))] [] (up_2 (up_2 J v (e - 1) (iN (48 + n % 10))) v (e - 1 - 1) (iN (48 + n / 10)), τ) := by
            rcases hu with rfl | ⟨y, rfl⟩
            · rw [b_22_51n, neg_9, neg_nZ]
              simp (disch := omega) only [rd_I_mk, rd_R_mk, rd_L_mk, rd_D_mk, kd_mk, wr_I_mk, cp_mk, gd_true, bd_ret, bd_thr, vl_none, vl_some, iN_add, iN_mul, iN_sub, iN_lt, iN_eq, iN_n, iN_m1, iN_pred, vp_iN, K0_le, nr_b0, nr_b1, m1_lt, lt_m1, iN_ne_m1, m1_ne_iN, not_lt_z, true_and, and_true, and_self, or_true, true_or, or_false, false_or, if_true, if_false, ↓reduceIte, eq_self, up_at, up_a, up_k, cp_c, cp_b, Nat.zero_add, Nat.add_zero, Nat.sub_zero, Nat.le_refl, Nat.add_sub_cancel, fu_at, fu_ne, iN_nz, n10_f, n01_f, ofN, qq_at_100, k110b, Nat.lt_irrefl, Nat.not_lt_zero, ne_eq, not_false_eq_true, not_true_eq_false, c2, k8, hvK, w2, hw2]
            · rw [b_22_51i, neg_9, neg_nZ]
              simp (disch := omega) only [rd_I_mk, rd_R_mk, rd_L_mk, rd_D_mk, kd_mk, wr_I_mk, cp_mk, gd_true, bd_ret, bd_thr, vl_none, vl_some, iN_add, iN_mul, iN_sub, iN_lt, iN_eq, iN_n, iN_m1, iN_pred, vp_iN, K0_le, nr_b0, nr_b1, m1_lt, lt_m1, iN_ne_m1, m1_ne_iN, not_lt_z, true_and, and_true, and_self, or_true, true_or, or_false, false_or, if_true, if_false, ↓reduceIte, eq_self, up_at, up_a, up_k, cp_c, cp_b, Nat.zero_add, Nat.add_zero, Nat.sub_zero, Nat.le_refl, Nat.add_sub_cancel, fu_at, fu_ne, iN_nz, n10_f, n01_f, ofN, qq_at_100, k110b, Nat.lt_irrefl, Nat.not_lt_zero, ne_eq, not_false_eq_true, not_true_eq_false, c2, k8, hvK, w2, hw2]
          refine ⟨_, _, st1.trans (st2.trans (fin _ _)), fun a ha => by rw [up_c ha, up_c ha]; exact hJ a ha, fun i hi h => ?_, fun i hi => ?_⟩
          · rw [hl] at h
            rw [up_k (by omega), up_k (by omega)]
          · rw [hl] at hi
            rw [hl]
            by_cases hi0 : i = 0
            · subst hi0
              rw [show e - 2 + 0 = e - 1 - 1 by omega, up_at]
              simp only [hd, List.getElem_cons_zero]
            · have hi1 : i = 1 := by omega
              subst hi1
              rw [show e - 2 + 1 = e - 1 by omega, up_k (by omega), up_at]
              simp only [hd, List.getElem_cons_succ, List.getElem_cons_zero]
      · have c1 : (nZ 100 < nZ n) = False := (nZ_lt (by omega) (by omega)).trans (eq_false q)
        have hd : dg n = dg (n / 100) ++ [48 + n % 100 / 10, 48 + n % 100 % 10] := dg_h q
        have hl : (dg n).length = (dg (n / 100)).length + 2 := by rw [hd, List.length_append]; rfl
        have w1 : J 69 (n % 100) = iN (48 + n % 100 % 10) := by rw [j9]; exact t9 _ (by omega)
        have w2 : J 68 (n % 100) = iN (48 + n % 100 / 10) := by rw [j8]; exact t8 _ (by omega)
        have hw1 := hw (48 + n % 100 % 10) (by omega)
        have hw2 := hw (48 + n % 100 / 10) (by omega)
        have hv1 := nZ_div hn
        have hv2 := nZ_mod hn
        have hr : n % 100 < 100 := Nat.mod_lt _ (by omega)
        generalize n % 100 = r at *
        obtain ⟨I', x, t1, t2, t3, t4⟩ := ih (n / 100) (e - 1 - 1) (up_2 (up_2 J v (e - 1) (iN (48 + r % 10))) v (e - 1 - 1) (iN (48 + r / 10))) x1 (some (.int (nZ (n / 100)))) (some (.int (iN r))) (by omega) (by omega) (by omega) (by omega) (fun a ha => by rw [up_c ha, up_c ha]; exact hJ a ha) (Or.inr ⟨_, rfl⟩)
        have st1 : RR d 22 13 [some (.int (nZ n)), some (.int x1), some (.ref v), u3, u4, some (.int (iN e)), some (.int (iN 0))] [] (J, τ) = RR d 22 35 [some (.int (nZ (n / 100))), some (.int x1), some (.ref v), some (.int (nZ (n / 100))), some (.int (iN r)), some (.int (iN (e - 1))), some (.int (iN 0))] [] (up_2 J v (e - 1) (iN (48 + r % 10)), τ) := by
          rcases hu with rfl | ⟨y, rfl⟩
          · rw [b_22_13n, neg_100, hv1, hv2]
            simp (disch := omega) only [rd_I_mk, rd_R_mk, rd_L_mk, rd_D_mk, kd_mk, wr_I_mk, cp_mk, gd_true, bd_ret, bd_thr, vl_none, vl_some, iN_add, iN_mul, iN_sub, iN_lt, iN_eq, iN_n, iN_m1, iN_pred, vp_iN, K0_le, nr_b0, nr_b1, m1_lt, lt_m1, iN_ne_m1, m1_ne_iN, not_lt_z, true_and, and_true, and_self, or_true, true_or, or_false, false_or, if_true, if_false, ↓reduceIte, eq_self, up_at, up_a, up_k, cp_c, cp_b, Nat.zero_add, Nat.add_zero, Nat.sub_zero, Nat.le_refl, Nat.add_sub_cancel, fu_at, fu_ne, iN_nz, n10_f, n01_f, ofN, qq_at_100, k110b, Nat.lt_irrefl, Nat.not_lt_zero, ne_eq, not_false_eq_true, not_true_eq_false, c1, k9, hvK, w1, hw1, n100_0]
          · rw [b_22_13i, neg_100, hv1, hv2]
            simp (disch := omega) only [rd_I_mk, rd_R_mk, rd_L_mk, rd_D_mk, kd_mk, wr_I_mk, cp_mk, gd_true, bd_ret, bd_thr, vl_none, vl_some, iN_add, iN_mul, iN_sub, iN_lt, iN_eq, iN_n, iN_m1, iN_pred, vp_iN, K0_le, nr_b0, nr_b1, m1_lt, lt_m1, iN_ne_m1, m1_ne_iN, not_lt_z, true_and, and_true, and_self, or_true, true_or, or_false, false_or, if_true, if_false, ↓reduceIte, eq_self, up_at, up_a, up_k, cp_c, cp_b, Nat.zero_add, Nat.add_zero, Nat.sub_zero, Nat.le_refl, Nat.add_sub_cancel, fu_at, fu_ne, iN_nz, n10_f, n01_f, ofN, qq_at_100, k110b, Nat.lt_irrefl, Nat.not_lt_zero, ne_eq, not_false_eq_true, not_true_eq_false, c1, k9, hvK, w1, hw1, n100_0]
        refine ⟨I', x, ?_, t2, fun i hi h => ?_, fun i hi => ?_⟩
        · rw [st1, b_22_35]
          simp (disch := omega) only [rd_I_mk, rd_R_mk, rd_L_mk, rd_D_mk, kd_mk, wr_I_mk, cp_mk, gd_true, bd_ret, bd_thr, vl_none, vl_some, iN_add, iN_mul, iN_sub, iN_lt, iN_eq, iN_n, iN_m1, iN_pred, vp_iN, K0_le, nr_b0, nr_b1, m1_lt, lt_m1, iN_ne_m1, m1_ne_iN, not_lt_z, true_and, and_true, and_self, or_true, true_or, or_false, false_or, if_true, if_false, ↓reduceIte, eq_self, up_at, up_a, up_k, cp_c, cp_b, Nat.zero_add, Nat.add_zero, Nat.sub_zero, Nat.le_refl, Nat.add_sub_cancel, fu_at, fu_ne, iN_nz, n10_f, n01_f, ofN, qq_at_100, k110b, Nat.lt_irrefl, Nat.not_lt_zero, ne_eq, not_false_eq_true, not_true_eq_false, k8, hvK, w2, hw2, b_22_42]
          exact t1
        · rw [hl] at h
          rw [t3 i hi (by omega), up_k (by omega), up_k (by omega)]
        · rw [hl] at hi
          rw [hl]
          by_cases hi2 : i < (dg (n / 100)).length
          · rw [show e - ((dg (n / 100)).length + 2) + i = e - 1 - 1 - (dg (n / 100)).length + i by omega, t4 i hi2]
            simp only [hd]
            rw [List.getElem_append_left hi2]
          · by_cases hi3 : i = (dg (n / 100)).length
            · subst hi3
              rw [show e - ((dg (n / 100)).length + 2) + (dg (n / 100)).length = e - 1 - 1 by omega, t3 _ (by omega) (by omega), up_at]
              simp only [hd]
              rw [List.getElem_append_right (Nat.le_refl _)]
              simp only [Nat.sub_self, List.getElem_cons_zero]
            · have hi4 : i = (dg (n / 100)).length + 1 := by omega
              subst hi4
              rw [show e - ((dg (n / 100)).length + 2) + ((dg (n / 100)).length + 1) = e - 1 by omega, t3 _ (by omega) (by omega), up_k (by omega), up_at]
              simp only [hd]
              rw [List.getElem_append_right (by omega)]
              simp only [Nat.add_sub_cancel_left, List.getElem_cons_succ, List.getElem_cons_zero]
  rw [c_22, b_22_0]
  simp only [not_lt_z (a := n) (by omega), if_false, b_22_7, nZ_neg, if_true]
  obtain ⟨I', x, t⟩ := lp (n + 1) n e I (iN e) none none (Nat.lt_succ_self _) hn he heN (fun _ _ => rfl) (Or.inl rfl)
  exact ⟨I', x, t⟩
end AP
