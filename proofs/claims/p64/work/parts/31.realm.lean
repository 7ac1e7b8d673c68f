/-! THE REALM: what it is, faults, copies -/
def inN (n : Nat) (x : Int32) : Bool := !(decide (x < iN 0)) && decide (x < iN n)
def inB (lo hi : Nat) (x : Int32) : Bool := !(decide (x < iN lo)) && !(decide (iN hi < x))
theorem inN_iff {n : Nat} (hn : n < 1000000) {x : Int32} : inN n x = true ↔ ∃ k, k < n ∧ x = iN k := by
  unfold inN
  rw [← iN_in (by omega), Bool.and_eq_true, Bool.not_eq_true', decide_eq_false_iff_not, decide_eq_true_eq]
theorem inB_iff {lo hi : Nat} (hh : hi < 1000000) (hl : lo < 1000000) {x : Int32} : inB lo hi x = true ↔ ∃ k, lo ≤ k ∧ k ≤ hi ∧ x = iN k := by
  unfold inB
  rw [Bool.and_eq_true, Bool.not_eq_true', Bool.not_eq_true', decide_eq_false_iff_not, decide_eq_false_iff_not]
  constructor
  · rintro ⟨h1, h2⟩
    have h3 : ¬ x < iN 0 := fun z => by
      rw [Int32.lt_iff_toInt_lt, iN_toInt (by omega)] at z h1
      omega
    have h4 : x < iN (hi + 1) := by
      rw [Int32.lt_iff_toInt_lt, iN_toInt (by omega)] at h2 ⊢
      omega
    obtain ⟨k, h5, rfl⟩ := iN_ex h3 h4 (by omega)
    rw [iN_lt (by omega) (by omega)] at h1
    exact ⟨k, by omega, by omega, rfl⟩
  · rintro ⟨k, h1, h2, rfl⟩
    rw [iN_lt (by omega) (by omega), iN_lt (by omega) (by omega)]
    omega
def b01 (p : Bool) : Int32 := if p = true then iN 1 else iN 0
theorem b01_t : b01 true = iN 1 := rfl
theorem b01_f : b01 false = iN 0 := rfl
def s_P (S : sS) : sP := S.1
def s_U (S : sS) : sU := S.2.1
def s_M (S : sS) : sM := S.2.2.1
def s_N (S : sS) : sN := S.2.2.2
def s_ni (S : sS) : Nat := S.2.2.2.1
def s_he (S : sS) : Nat := S.2.2.2.2.1
def s_up (S : sS) : Int32 := S.2.2.2.2.2.1
def s_di (S : sS) : Int32 := S.2.2.2.2.2.2.1
def s_la (S : sS) : Int32 := S.2.2.2.2.2.2.2
/-- the realm at b holds S -/
def R_R (I : qq_I) (b : Nat) (S : sS) : Prop := R_P I (b + 1) (s_P S) ∧ R_U I (b + 7) (s_U S) ∧ R_M I (b + 14) (s_M S) ∧ I b 3 = iN (s_ni S) ∧ I b 4 = caC (s_he S) ∧ I b 5 = s_up S ∧ I b 6 = s_di S ∧ I b 7 = s_la S
theorem R_R_same {I I' : qq_I} {b : Nat} {S : sS} (h : R_R I b S) (hs : ∀ a, b ≤ a → a < b + 17 → I' a = I a) : R_R I' b S := by
  obtain ⟨h1, h2, h3, h4, h5, h6, h7, h8⟩ := h
  have e := hs b (by omega) (by omega)
  refine ⟨R_P_same h1 (fun a _ _ => hs a (by omega) (by omega)), R_U_same h2 (fun a _ _ => hs a (by omega) (by omega)), R_M_same h3 (fun a _ _ => hs a (by omega) (by omega)), ?_, ?_, ?_, ?_, ?_⟩ <;> rw [e] <;> assumption
/-- a state as it must be; its numbers below a bound that grows -/
def wS (B : Nat) (S : sS) : Prop := B ≤ 900000 ∧ wP (s_P S) ∧ wU (s_U S) ∧ unx (s_U S) ≤ B ∧ s_ni S ≤ B ∧ (∀ k, k < un (s_U S) → w_of (ug (s_U S) k) < p_ns (s_P S) ∧ w_la (ug (s_U S) k) ≤ B + 20) ∧
  (∀ w, w < 21 → m_bl (s_M S) w + 60 * un (s_U S) ≤ B) ∧ s_he S ≤ s_ni S + 1 ∧ m_tr (s_M S) + sA (fun w => iN (m_bl (s_M S) w)) 20 = m_ad (s_M S)
theorem wS_M {B : Nat} {S : sS} (h : wS B S) : wM (s_M S) := fun w hw => by
  have h1 := h.1
  have h2 := h.2.2.2.2.2.2.1 w hw
  omega
theorem wS_up {B B' : Nat} {S : sS} (h : wS B S) (h1 : B ≤ B') (h2 : B' ≤ 900000) : wS B' S := by
  obtain ⟨q1, q2, q3, q4, q5, q6, q7, q8, q9⟩ := h
  exact ⟨h2, q2, q3, by omega, by omega, fun k hk => ⟨(q6 k hk).1, by have := (q6 k hk).2; omega⟩, fun w hw => by have := q7 w hw; omega, q8, q9⟩
/-! faults as letters -/
def ft_ped (S : sS) : Nat := if p_np (s_P S) < 8 then 45 else 115
def ft_arr (S : sS) (x y : Int32) : Nat := if (inN (p_np (s_P S)) x && inN (p_np (s_P S)) y) = true then 45 else 105
def ft_sta (S : sS) (x w : Int32) : Nat := if inN (p_np (s_P S)) x = false then 105 else if inB 1 99 w = false then 97 else if p_ns (s_P S) < 6 then (if onP (s_P S) x.toNatClampNeg = none then 45 else 115) else 115
def ft_hom (S : sS) (x y : Int32) : Nat := if (inN (p_ns (s_P S)) x && inN (p_np (s_P S)) y) = true then 45 else 105
def ft_arg (S : sS) (x n b : Int32) : Nat := if inN (p_ns (s_P S)) x = false then 105 else if (inB 0 20 n && inB 1 60 b) = true then 45 else 97
def ft_wri (S : sS) (x n b : Int32) : Nat := if ft_arg S x n b = 45 then (if un (s_U S) < 8 then 45 else 115) else ft_arg S x n b
def ft_fol (S : sS) (x n b c : Int32) : Nat := if ft_arg S x n b = 45 then (if fiX (s_U S) c = none then 101 else if un (s_U S) < 8 then 45 else 115) else ft_arg S x n b
def ft_blk (S : sS) (w c : Int32) : Nat := if (inB 1 20 w && inB 1 9 c) = true then (if 99 < m_bl (s_M S) w.toNatClampNeg + c.toNatClampNeg then 115 else 45) else 97
def ft_hea (S : sS) (x : Int32) : Nat := if fiX (s_U S) x = none then 101 else if s_he S = s_ni S + 1 then 115 else 45
def ft_pay (S : sS) (x : Int32) : Nat := match fiX (s_U S) x with
  | none => 101
  | some k => if w_pd (ug (s_U S) k) = 0 then (if fw (m_bl (s_M S)) 20 (w_ba (ug (s_U S) k)) = 1000 then 117 else 45) else 115
def ft_nig (n : Int32) : Nat := if inB 1 50 n = true then 45 else 97
section RM
variable {d : Nat} {I : qq_I} {τ : qq_R} {b : Nat} {S : sS} {B : Nat}
theorem c_hasPed {p : Nat} {P : sP} (hL : L_P τ p) (hR : R_P I p P) (hw : wP P) (x : Int32) : CC d 60 [.ref p, .int x] (I, τ) = some (.inl (some (.int (b01 (inN (p_np P) x)))), (I, τ)) := by
  have h := c_hasPedestal (d := d) hL hR hw x
  have hn := hw.1
  have key := @inN_iff (p_np P) (by omega) x
  rw [h]
  by_cases q : ∃ k, k < p_np P ∧ x = iN k
  · rw [if_pos q, key.mpr q]; rfl
  · rw [if_neg q]
    have : inN (p_np P) x = false := by
      rw [Bool.eq_false_iff]; exact fun z => q (key.mp z)
    rw [this]; rfl
theorem c_hasSta {p : Nat} {P : sP} (hL : L_P τ p) (hR : R_P I p P) (hw : wP P) (x : Int32) : CC d 61 [.ref p, .int x] (I, τ) = some (.inl (some (.int (b01 (inN (p_ns P) x)))), (I, τ)) := by
  have h := c_hasStatue (d := d) hL hR hw x
  have hn := hw.2.1
  have key := @inN_iff (p_ns P) (by omega) x
  rw [h]
  by_cases q : ∃ k, k < p_ns P ∧ x = iN k
  · rw [if_pos q, key.mpr q]; rfl
  · rw [if_neg q]
    have : inN (p_ns P) x = false := by
      rw [Bool.eq_false_iff]; exact fun z => q (key.mp z)
    rw [this]; rfl
theorem c_isBetween {lo hi : Nat} (x : Int32) : CC d 200 [.int x, .int (iN lo), .int (iN hi)] (I, τ) = some (.inl (some (.int (b01 (inB lo hi x)))), (I, τ)) := by
  rw [c_200, b_200_0]
  unfold inB
  by_cases h1 : x < iN lo
  · rw [if_pos h1, decide_eq_true h1]
    simp (disch := omega) only [rd_I_mk, rd_R_mk, rd_L_mk, rd_D_mk, kd_mk, wr_I_mk, cp_mk, gd_true, bd_ret, bd_thr, vl_none, vl_some, iN_add, iN_mul, iN_sub, iN_lt, iN_eq, iN_n, iN_m1, iN_pred, vp_iN, K0_le, nr_b0, nr_b1, m1_lt, lt_m1, iN_ne_m1, m1_ne_iN, not_lt_z, true_and, and_true, and_self, or_true, true_or, or_false, false_or, if_true, if_false, ↓reduceIte, eq_self, up_at, up_a, up_k, cp_c, cp_b, Nat.zero_add, Nat.add_zero, Nat.sub_zero, Nat.le_refl, Nat.add_sub_cancel, fu_at, fu_ne, iN_nz, n10_f, n01_f, ofN, qq_at_100, k110b, Nat.lt_irrefl, Nat.not_lt_zero, ne_eq, not_false_eq_true, not_true_eq_false, b_200_8, b_200_9]
    rfl
  · rw [if_neg h1, decide_eq_false h1]
    by_cases h2 : iN hi < x
    · rw [if_pos h2, decide_eq_true h2]
      simp (disch := omega) only [rd_I_mk, rd_R_mk, rd_L_mk, rd_D_mk, kd_mk, wr_I_mk, cp_mk, gd_true, bd_ret, bd_thr, vl_none, vl_some, iN_add, iN_mul, iN_sub, iN_lt, iN_eq, iN_n, iN_m1, iN_pred, vp_iN, K0_le, nr_b0, nr_b1, m1_lt, lt_m1, iN_ne_m1, m1_ne_iN, not_lt_z, true_and, and_true, and_self, or_true, true_or, or_false, false_or, if_true, if_false, ↓reduceIte, eq_self, up_at, up_a, up_k, cp_c, cp_b, Nat.zero_add, Nat.add_zero, Nat.sub_zero, Nat.le_refl, Nat.add_sub_cancel, fu_at, fu_ne, iN_nz, n10_f, n01_f, ofN, qq_at_100, k110b, Nat.lt_irrefl, Nat.not_lt_zero, ne_eq, not_false_eq_true, not_true_eq_false, b_200_8, b_200_9]
      rfl
    · rw [if_neg h2, decide_eq_false h2]
      simp (disch := omega) only [rd_I_mk, rd_R_mk, rd_L_mk, rd_D_mk, kd_mk, wr_I_mk, cp_mk, gd_true, bd_ret, bd_thr, vl_none, vl_some, iN_add, iN_mul, iN_sub, iN_lt, iN_eq, iN_n, iN_m1, iN_pred, vp_iN, K0_le, nr_b0, nr_b1, m1_lt, lt_m1, iN_ne_m1, m1_ne_iN, not_lt_z, true_and, and_true, and_self, or_true, true_or, or_false, false_or, if_true, if_false, ↓reduceIte, eq_self, up_at, up_a, up_k, cp_c, cp_b, Nat.zero_add, Nat.add_zero, Nat.sub_zero, Nat.le_refl, Nat.add_sub_cancel, fu_at, fu_ne, iN_nz, n10_f, n01_f, ofN, qq_at_100, k110b, Nat.lt_irrefl, Nat.not_lt_zero, ne_eq, not_false_eq_true, not_true_eq_false, b_200_8, b_200_9]
      rfl
theorem c_copyRealm {c : Nat} (hL : L_R τ b) (hC : L_R τ c) (hR : R_R I c S) (hw : wS B S) (hne : b + 17 ≤ c ∨ c + 17 ≤ b) : ∃ I', CC (d + 1) 75 [.ref b, .ref c] (I, τ) = some (.inl none, (I', τ)) ∧ R_R I' b S ∧ Fr b 17 I I' := by
  obtain ⟨hb, k0, k1, k2, k3, lp, lw, lm⟩ := hL
  obtain ⟨hc, j0, j1, j2, j3, mp, mw, mm⟩ := hC
  have hR0 := hR
  obtain ⟨h1, h2, h3, h4, h5, h6, h7, h8⟩ := hR
  obtain ⟨I1, s1, s2, s3⟩ := c_copyPlaza (d := d) lp mp h1 hw.2.1 (by omega)
  obtain ⟨I2, t1, t2, t3⟩ := c_copyWrits (d := d) lw mw (R_U_same h2 (fun a _ _ => s3 a (by omega))) hw.2.2.1 (by omega)
  obtain ⟨I3, u1, u2, u3⟩ := c_copyMarble (d := d) (I := I2) lm mm (R_M_same h3 (fun a _ _ => by rw [t3 a (by omega), s3 a (by omega)])) (by omega)
  have f : ∀ a, (a < b + 1 ∨ b + 17 ≤ a) → I3 a = I a := fun a ha => by rw [u3 a (by omega), t3 a (by omega), s3 a (by omega)]
  have fc := f c (by omega)
  refine ⟨up_2 (up_2 (up_2 (up_2 (up_2 I3 b 3 (iN (s_ni S))) b 4 (caC (s_he S))) b 5 (s_up S)) b 6 (s_di S)) b 7 (s_la S), ?_, ⟨?_, ?_, ?_, ?_, ?_, ?_, ?_, ?_⟩, ?_⟩
  · have l1 := lp.2.1
    have l2 := lw.2.1
    have l3 := lm.2.1
    rw [c_75, b_75_0]
    simp (disch := omega) only [rd_I_mk, rd_R_mk, rd_L_mk, rd_D_mk, kd_mk, wr_I_mk, cp_mk, gd_true, bd_ret, bd_thr, vl_none, vl_some, iN_add, iN_mul, iN_sub, iN_lt, iN_eq, iN_n, iN_m1, iN_pred, vp_iN, K0_le, nr_b0, nr_b1, m1_lt, lt_m1, iN_ne_m1, m1_ne_iN, not_lt_z, true_and, and_true, and_self, or_true, true_or, or_false, false_or, if_true, if_false, ↓reduceIte, eq_self, up_at, up_a, up_k, cp_c, cp_b, Nat.zero_add, Nat.add_zero, Nat.sub_zero, Nat.le_refl, Nat.add_sub_cancel, fu_at, fu_ne, iN_nz, n10_f, n01_f, ofN, qq_at_100, k110b, Nat.lt_irrefl, Nat.not_lt_zero, ne_eq, not_false_eq_true, not_true_eq_false, k0, j0, k1, j1, k2, j2, k3, j3, l1, l2, l3, s1, b_75_5, t1, b_75_10, u1, b_75_15, b_75_19, b_75_23, b_75_27, b_75_31, b_75_35, fc, h4, h5, h6, h7, h8]
  · refine R_P_same s2 (fun a q1 q2 => ?_)
    rw [up_c (by omega), up_c (by omega), up_c (by omega), up_c (by omega), up_c (by omega), u3 a (by omega), t3 a (by omega)]
  · refine R_U_same t2 (fun a q1 q2 => ?_)
    rw [up_c (by omega), up_c (by omega), up_c (by omega), up_c (by omega), up_c (by omega), u3 a (by omega)]
  · refine R_M_same u2 (fun a q1 q2 => ?_)
    rw [up_c (by omega), up_c (by omega), up_c (by omega), up_c (by omega), up_c (by omega)]
  · simp (disch := omega) only [rd_I_mk, rd_R_mk, rd_L_mk, rd_D_mk, kd_mk, wr_I_mk, cp_mk, gd_true, bd_ret, bd_thr, vl_none, vl_some, iN_add, iN_mul, iN_sub, iN_lt, iN_eq, iN_n, iN_m1, iN_pred, vp_iN, K0_le, nr_b0, nr_b1, m1_lt, lt_m1, iN_ne_m1, m1_ne_iN, not_lt_z, true_and, and_true, and_self, or_true, true_or, or_false, false_or, if_true, if_false, ↓reduceIte, eq_self, up_at, up_a, up_k, cp_c, cp_b, Nat.zero_add, Nat.add_zero, Nat.sub_zero, Nat.le_refl, Nat.add_sub_cancel, fu_at, fu_ne, iN_nz, n10_f, n01_f, ofN, qq_at_100, k110b, Nat.lt_irrefl, Nat.not_lt_zero, ne_eq, not_false_eq_true, not_true_eq_false]
  · simp (disch := omega) only [rd_I_mk, rd_R_mk, rd_L_mk, rd_D_mk, kd_mk, wr_I_mk, cp_mk, gd_true, bd_ret, bd_thr, vl_none, vl_some, iN_add, iN_mul, iN_sub, iN_lt, iN_eq, iN_n, iN_m1, iN_pred, vp_iN, K0_le, nr_b0, nr_b1, m1_lt, lt_m1, iN_ne_m1, m1_ne_iN, not_lt_z, true_and, and_true, and_self, or_true, true_or, or_false, false_or, if_true, if_false, ↓reduceIte, eq_self, up_at, up_a, up_k, cp_c, cp_b, Nat.zero_add, Nat.add_zero, Nat.sub_zero, Nat.le_refl, Nat.add_sub_cancel, fu_at, fu_ne, iN_nz, n10_f, n01_f, ofN, qq_at_100, k110b, Nat.lt_irrefl, Nat.not_lt_zero, ne_eq, not_false_eq_true, not_true_eq_false]
  · simp (disch := omega) only [rd_I_mk, rd_R_mk, rd_L_mk, rd_D_mk, kd_mk, wr_I_mk, cp_mk, gd_true, bd_ret, bd_thr, vl_none, vl_some, iN_add, iN_mul, iN_sub, iN_lt, iN_eq, iN_n, iN_m1, iN_pred, vp_iN, K0_le, nr_b0, nr_b1, m1_lt, lt_m1, iN_ne_m1, m1_ne_iN, not_lt_z, true_and, and_true, and_self, or_true, true_or, or_false, false_or, if_true, if_false, ↓reduceIte, eq_self, up_at, up_a, up_k, cp_c, cp_b, Nat.zero_add, Nat.add_zero, Nat.sub_zero, Nat.le_refl, Nat.add_sub_cancel, fu_at, fu_ne, iN_nz, n10_f, n01_f, ofN, qq_at_100, k110b, Nat.lt_irrefl, Nat.not_lt_zero, ne_eq, not_false_eq_true, not_true_eq_false]
  · simp (disch := omega) only [rd_I_mk, rd_R_mk, rd_L_mk, rd_D_mk, kd_mk, wr_I_mk, cp_mk, gd_true, bd_ret, bd_thr, vl_none, vl_some, iN_add, iN_mul, iN_sub, iN_lt, iN_eq, iN_n, iN_m1, iN_pred, vp_iN, K0_le, nr_b0, nr_b1, m1_lt, lt_m1, iN_ne_m1, m1_ne_iN, not_lt_z, true_and, and_true, and_self, or_true, true_or, or_false, false_or, if_true, if_false, ↓reduceIte, eq_self, up_at, up_a, up_k, cp_c, cp_b, Nat.zero_add, Nat.add_zero, Nat.sub_zero, Nat.le_refl, Nat.add_sub_cancel, fu_at, fu_ne, iN_nz, n10_f, n01_f, ofN, qq_at_100, k110b, Nat.lt_irrefl, Nat.not_lt_zero, ne_eq, not_false_eq_true, not_true_eq_false]
  · simp (disch := omega) only [rd_I_mk, rd_R_mk, rd_L_mk, rd_D_mk, kd_mk, wr_I_mk, cp_mk, gd_true, bd_ret, bd_thr, vl_none, vl_some, iN_add, iN_mul, iN_sub, iN_lt, iN_eq, iN_n, iN_m1, iN_pred, vp_iN, K0_le, nr_b0, nr_b1, m1_lt, lt_m1, iN_ne_m1, m1_ne_iN, not_lt_z, true_and, and_true, and_self, or_true, true_or, or_false, false_or, if_true, if_false, ↓reduceIte, eq_self, up_at, up_a, up_k, cp_c, cp_b, Nat.zero_add, Nat.add_zero, Nat.sub_zero, Nat.le_refl, Nat.add_sub_cancel, fu_at, fu_ne, iN_nz, n10_f, n01_f, ofN, qq_at_100, k110b, Nat.lt_irrefl, Nat.not_lt_zero, ne_eq, not_false_eq_true, not_true_eq_false]
  · intro a ha
    rw [up_c (by omega), up_c (by omega), up_c (by omega), up_c (by omega), up_c (by omega), f a (by omega)]
theorem c_pedestalFault (hL : L_R τ b) (hR : R_R I b S) (hw : wS B S) : CC d 76 [.ref b] (I, τ) = some (.inl (some (.int (iN (ft_ped S)))), (I, τ)) := by
  obtain ⟨hb, k0, k1, k2, k3, lp, lw, lm⟩ := hL
  obtain ⟨h1, h2, h3, h4, h5, h6, h7, h8⟩ := hR
  have l1 := lp.2.1
  have e1 := h1.1
  have w1 := hw.2.1.1
  unfold ft_ped
  rw [c_76, b_76_0]
  by_cases q : p_np (s_P S) < 8
  · simp (disch := omega) only [rd_I_mk, rd_R_mk, rd_L_mk, rd_D_mk, kd_mk, wr_I_mk, cp_mk, gd_true, bd_ret, bd_thr, vl_none, vl_some, iN_add, iN_mul, iN_sub, iN_lt, iN_eq, iN_n, iN_m1, iN_pred, vp_iN, K0_le, nr_b0, nr_b1, m1_lt, lt_m1, iN_ne_m1, m1_ne_iN, not_lt_z, true_and, and_true, and_self, or_true, true_or, or_false, false_or, if_true, if_false, ↓reduceIte, eq_self, up_at, up_a, up_k, cp_c, cp_b, Nat.zero_add, Nat.add_zero, Nat.sub_zero, Nat.le_refl, Nat.add_sub_cancel, fu_at, fu_ne, iN_nz, n10_f, n01_f, ofN, qq_at_100, k110b, Nat.lt_irrefl, Nat.not_lt_zero, ne_eq, not_false_eq_true, not_true_eq_false, k0, k1, l1, e1, q, b_76_8, nr_ch]
  · simp (disch := omega) only [rd_I_mk, rd_R_mk, rd_L_mk, rd_D_mk, kd_mk, wr_I_mk, cp_mk, gd_true, bd_ret, bd_thr, vl_none, vl_some, iN_add, iN_mul, iN_sub, iN_lt, iN_eq, iN_n, iN_m1, iN_pred, vp_iN, K0_le, nr_b0, nr_b1, m1_lt, lt_m1, iN_ne_m1, m1_ne_iN, not_lt_z, true_and, and_true, and_self, or_true, true_or, or_false, false_or, if_true, if_false, ↓reduceIte, eq_self, up_at, up_a, up_k, cp_c, cp_b, Nat.zero_add, Nat.add_zero, Nat.sub_zero, Nat.le_refl, Nat.add_sub_cancel, fu_at, fu_ne, iN_nz, n10_f, n01_f, ofN, qq_at_100, k110b, Nat.lt_irrefl, Nat.not_lt_zero, ne_eq, not_false_eq_true, not_true_eq_false, k0, k1, l1, e1, q, b_76_8, nr_ch]
theorem c_arrowFault (hL : L_R τ b) (hR : R_R I b S) (hw : wS B S) (x y : Int32) : CC (d + 1) 77 [.ref b, .int x, .int y] (I, τ) = some (.inl (some (.int (iN (ft_arr S x y)))), (I, τ)) := by
  obtain ⟨hb, k0, k1, k2, k3, lp, lw, lm⟩ := hL
  have hR0 := hR
  obtain ⟨h1, h2, h3, h4, h5, h6, h7, h8⟩ := hR
  have l1 := lp.2.1
  have f1 := c_hasPed (d := d) lp h1 hw.2.1 x
  have f2 := c_hasPed (d := d) lp h1 hw.2.1 y
  unfold ft_arr
  rw [c_77, b_77_0]
  cases hx : inN (p_np (s_P S)) x with
  | false =>
    rw [hx, b01_f] at f1
    simp (disch := omega) only [rd_I_mk, rd_R_mk, rd_L_mk, rd_D_mk, kd_mk, wr_I_mk, cp_mk, gd_true, bd_ret, bd_thr, vl_none, vl_some, iN_add, iN_mul, iN_sub, iN_lt, iN_eq, iN_n, iN_m1, iN_pred, vp_iN, K0_le, nr_b0, nr_b1, m1_lt, lt_m1, iN_ne_m1, m1_ne_iN, not_lt_z, true_and, and_true, and_self, or_true, true_or, or_false, false_or, if_true, if_false, ↓reduceIte, eq_self, up_at, up_a, up_k, cp_c, cp_b, Nat.zero_add, Nat.add_zero, Nat.sub_zero, Nat.le_refl, Nat.add_sub_cancel, fu_at, fu_ne, iN_nz, n10_f, n01_f, ofN, qq_at_100, k110b, Nat.lt_irrefl, Nat.not_lt_zero, ne_eq, not_false_eq_true, not_true_eq_false, k0, k1, l1, f1, b_77_4, b_77_12, b_77_13, nr_ch, Bool.false_and, reduceCtorEq]
  | true =>
    rw [hx, b01_t] at f1
    cases hy : inN (p_np (s_P S)) y with
    | false =>
      rw [hy, b01_f] at f2
      simp (disch := omega) only [rd_I_mk, rd_R_mk, rd_L_mk, rd_D_mk, kd_mk, wr_I_mk, cp_mk, gd_true, bd_ret, bd_thr, vl_none, vl_some, iN_add, iN_mul, iN_sub, iN_lt, iN_eq, iN_n, iN_m1, iN_pred, vp_iN, K0_le, nr_b0, nr_b1, m1_lt, lt_m1, iN_ne_m1, m1_ne_iN, not_lt_z, true_and, and_true, and_self, or_true, true_or, or_false, false_or, if_true, if_false, ↓reduceIte, eq_self, up_at, up_a, up_k, cp_c, cp_b, Nat.zero_add, Nat.add_zero, Nat.sub_zero, Nat.le_refl, Nat.add_sub_cancel, fu_at, fu_ne, iN_nz, n10_f, n01_f, ofN, qq_at_100, k110b, Nat.lt_irrefl, Nat.not_lt_zero, ne_eq, not_false_eq_true, not_true_eq_false, k0, k1, l1, f1, b_77_4, f2, b_77_9, b_77_12, b_77_13, nr_ch, Bool.true_and, reduceCtorEq]
    | true =>
      rw [hy, b01_t] at f2
      simp (disch := omega) only [rd_I_mk, rd_R_mk, rd_L_mk, rd_D_mk, kd_mk, wr_I_mk, cp_mk, gd_true, bd_ret, bd_thr, vl_none, vl_some, iN_add, iN_mul, iN_sub, iN_lt, iN_eq, iN_n, iN_m1, iN_pred, vp_iN, K0_le, nr_b0, nr_b1, m1_lt, lt_m1, iN_ne_m1, m1_ne_iN, not_lt_z, true_and, and_true, and_self, or_true, true_or, or_false, false_or, if_true, if_false, ↓reduceIte, eq_self, up_at, up_a, up_k, cp_c, cp_b, Nat.zero_add, Nat.add_zero, Nat.sub_zero, Nat.le_refl, Nat.add_sub_cancel, fu_at, fu_ne, iN_nz, n10_f, n01_f, ofN, qq_at_100, k110b, Nat.lt_irrefl, Nat.not_lt_zero, ne_eq, not_false_eq_true, not_true_eq_false, k0, k1, l1, f1, b_77_4, f2, b_77_9, b_77_12, b_77_13, nr_ch, Bool.true_and]
theorem c_homeFault (hL : L_R τ b) (hR : R_R I b S) (hw : wS B S) (x y : Int32) : CC (d + 1) 79 [.ref b, .int x, .int y] (I, τ) = some (.inl (some (.int (iN (ft_hom S x y)))), (I, τ)) := by
  obtain ⟨hb, k0, k1, k2, k3, lp, lw, lm⟩ := hL
  obtain ⟨h1, h2, h3, h4, h5, h6, h7, h8⟩ := hR
  have l1 := lp.2.1
  have f1 := c_hasSta (d := d) lp h1 hw.2.1 x
  have f2 := c_hasPed (d := d) lp h1 hw.2.1 y
  unfold ft_hom
  rw [c_79, b_79_0]
  cases hx : inN (p_ns (s_P S)) x with
  | false =>
    rw [hx, b01_f] at f1
    simp (disch := omega) only [rd_I_mk, rd_R_mk, rd_L_mk, rd_D_mk, kd_mk, wr_I_mk, cp_mk, gd_true, bd_ret, bd_thr, vl_none, vl_some, iN_add, iN_mul, iN_sub, iN_lt, iN_eq, iN_n, iN_m1, iN_pred, vp_iN, K0_le, nr_b0, nr_b1, m1_lt, lt_m1, iN_ne_m1, m1_ne_iN, not_lt_z, true_and, and_true, and_self, or_true, true_or, or_false, false_or, if_true, if_false, ↓reduceIte, eq_self, up_at, up_a, up_k, cp_c, cp_b, Nat.zero_add, Nat.add_zero, Nat.sub_zero, Nat.le_refl, Nat.add_sub_cancel, fu_at, fu_ne, iN_nz, n10_f, n01_f, ofN, qq_at_100, k110b, Nat.lt_irrefl, Nat.not_lt_zero, ne_eq, not_false_eq_true, not_true_eq_false, k0, k1, l1, f1, b_79_4, b_79_12, b_79_13, nr_ch, Bool.false_and, reduceCtorEq]
  | true =>
    rw [hx, b01_t] at f1
    cases hy : inN (p_np (s_P S)) y with
    | false =>
      rw [hy, b01_f] at f2
      simp (disch := omega) only [rd_I_mk, rd_R_mk, rd_L_mk, rd_D_mk, kd_mk, wr_I_mk, cp_mk, gd_true, bd_ret, bd_thr, vl_none, vl_some, iN_add, iN_mul, iN_sub, iN_lt, iN_eq, iN_n, iN_m1, iN_pred, vp_iN, K0_le, nr_b0, nr_b1, m1_lt, lt_m1, iN_ne_m1, m1_ne_iN, not_lt_z, true_and, and_true, and_self, or_true, true_or, or_false, false_or, if_true, if_false, ↓reduceIte, eq_self, up_at, up_a, up_k, cp_c, cp_b, Nat.zero_add, Nat.add_zero, Nat.sub_zero, Nat.le_refl, Nat.add_sub_cancel, fu_at, fu_ne, iN_nz, n10_f, n01_f, ofN, qq_at_100, k110b, Nat.lt_irrefl, Nat.not_lt_zero, ne_eq, not_false_eq_true, not_true_eq_false, k0, k1, l1, f1, b_79_4, f2, b_79_9, b_79_12, b_79_13, nr_ch, Bool.true_and, reduceCtorEq]
    | true =>
      rw [hy, b01_t] at f2
      simp (disch := omega) only [rd_I_mk, rd_R_mk, rd_L_mk, rd_D_mk, kd_mk, wr_I_mk, cp_mk, gd_true, bd_ret, bd_thr, vl_none, vl_some, iN_add, iN_mul, iN_sub, iN_lt, iN_eq, iN_n, iN_m1, iN_pred, vp_iN, K0_le, nr_b0, nr_b1, m1_lt, lt_m1, iN_ne_m1, m1_ne_iN, not_lt_z, true_and, and_true, and_self, or_true, true_or, or_false, false_or, if_true, if_false, ↓reduceIte, eq_self, up_at, up_a, up_k, cp_c, cp_b, Nat.zero_add, Nat.add_zero, Nat.sub_zero, Nat.le_refl, Nat.add_sub_cancel, fu_at, fu_ne, iN_nz, n10_f, n01_f, ofN, qq_at_100, k110b, Nat.lt_irrefl, Nat.not_lt_zero, ne_eq, not_false_eq_true, not_true_eq_false, k0, k1, l1, f1, b_79_4, f2, b_79_9, b_79_12, b_79_13, nr_ch, Bool.true_and]
theorem c_statueFault (hL : L_R τ b) (hR : R_R I b S) (hw : wS B S) (x y : Int32) : CC (d + 1) 78 [.ref b, .int x, .int y] (I, τ) = some (.inl (some (.int (iN (ft_sta S x y)))), (I, τ)) := by
  obtain ⟨hb, k0, k1, k2, k3, lp, lw, lm⟩ := hL
  obtain ⟨h1, h2, h3, h4, h5, h6, h7, h8⟩ := hR
  have l1 := lp.2.1
  have e2 := h1.2.1
  have w1 := hw.2.1.1
  have w2 := hw.2.1.2.1
  have f1 := c_hasPed (d := d) lp h1 hw.2.1 x
  have f2 := c_isBetween (d := d) (I := I) (τ := τ) (lo := 1) (hi := 99) y
  have hso := fun x (hx : x < 100) => c_standingOn (d := d) lp h1 hw.2.1 (x := x) hx
  unfold ft_sta
  rw [c_78, b_78_0]
  cases hx : inN (p_np (s_P S)) x with
  | false =>
    rw [hx, b01_f] at f1
    simp (disch := omega) only [rd_I_mk, rd_R_mk, rd_L_mk, rd_D_mk, kd_mk, wr_I_mk, cp_mk, gd_true, bd_ret, bd_thr, vl_none, vl_some, iN_add, iN_mul, iN_sub, iN_lt, iN_eq, iN_n, iN_m1, iN_pred, vp_iN, K0_le, nr_b0, nr_b1, m1_lt, lt_m1, iN_ne_m1, m1_ne_iN, not_lt_z, true_and, and_true, and_self, or_true, true_or, or_false, false_or, if_true, if_false, ↓reduceIte, eq_self, up_at, up_a, up_k, cp_c, cp_b, Nat.zero_add, Nat.add_zero, Nat.sub_zero, Nat.le_refl, Nat.add_sub_cancel, fu_at, fu_ne, iN_nz, n10_f, n01_f, ofN, qq_at_100, k110b, Nat.lt_irrefl, Nat.not_lt_zero, ne_eq, not_false_eq_true, not_true_eq_false, k0, k1, l1, f1, b_78_4, nr_ch]
  | true =>
    obtain ⟨k, hk, rfl⟩ := (inN_iff (by omega)).mp hx
    rw [hx, b01_t] at f1
    cases hy : inB 1 99 y with
    | false =>
      rw [hy, b01_f] at f2
      simp (disch := omega) only [rd_I_mk, rd_R_mk, rd_L_mk, rd_D_mk, kd_mk, wr_I_mk, cp_mk, gd_true, bd_ret, bd_thr, vl_none, vl_some, iN_add, iN_mul, iN_sub, iN_lt, iN_eq, iN_n, iN_m1, iN_pred, vp_iN, K0_le, nr_b0, nr_b1, m1_lt, lt_m1, iN_ne_m1, m1_ne_iN, not_lt_z, true_and, and_true, and_self, or_true, true_or, or_false, false_or, if_true, if_false, ↓reduceIte, eq_self, up_at, up_a, up_k, cp_c, cp_b, Nat.zero_add, Nat.add_zero, Nat.sub_zero, Nat.le_refl, Nat.add_sub_cancel, fu_at, fu_ne, iN_nz, n10_f, n01_f, ofN, qq_at_100, k110b, Nat.lt_irrefl, Nat.not_lt_zero, ne_eq, not_false_eq_true, not_true_eq_false, k0, k1, l1, f1, b_78_4, f2, b_78_11, nr_ch, reduceCtorEq]
    | true =>
      rw [hy, b01_t] at f2
      have hso2 := hso k (by omega)
      by_cases hn : p_ns (s_P S) < 6
      · cases ho : onP (s_P S) k with
        | none =>
          rw [ho] at hso2
          simp (disch := omega) only [rd_I_mk, rd_R_mk, rd_L_mk, rd_D_mk, kd_mk, wr_I_mk, cp_mk, gd_true, bd_ret, bd_thr, vl_none, vl_some, iN_add, iN_mul, iN_sub, iN_lt, iN_eq, iN_n, iN_m1, iN_pred, vp_iN, K0_le, nr_b0, nr_b1, m1_lt, lt_m1, iN_ne_m1, m1_ne_iN, not_lt_z, true_and, and_true, and_self, or_true, true_or, or_false, false_or, if_true, if_false, ↓reduceIte, eq_self, up_at, up_a, up_k, cp_c, cp_b, Nat.zero_add, Nat.add_zero, Nat.sub_zero, Nat.le_refl, Nat.add_sub_cancel, fu_at, fu_ne, iN_nz, n10_f, n01_f, ofN, qq_at_100, k110b, Nat.lt_irrefl, Nat.not_lt_zero, ne_eq, not_false_eq_true, not_true_eq_false, k0, k1, l1, f1, b_78_4, f2, b_78_11, e2, hn, hso2, oN, b_78_23, b_78_28, b_78_34, nr_ch, reduceCtorEq, ho]
        | some j =>
          have hj := (ff_some _ _ _ ho).2.1
          rw [ho] at hso2
          simp (disch := omega) only [rd_I_mk, rd_R_mk, rd_L_mk, rd_D_mk, kd_mk, wr_I_mk, cp_mk, gd_true, bd_ret, bd_thr, vl_none, vl_some, iN_add, iN_mul, iN_sub, iN_lt, iN_eq, iN_n, iN_m1, iN_pred, vp_iN, K0_le, nr_b0, nr_b1, m1_lt, lt_m1, iN_ne_m1, m1_ne_iN, not_lt_z, true_and, and_true, and_self, or_true, true_or, or_false, false_or, if_true, if_false, ↓reduceIte, eq_self, up_at, up_a, up_k, cp_c, cp_b, Nat.zero_add, Nat.add_zero, Nat.sub_zero, Nat.le_refl, Nat.add_sub_cancel, fu_at, fu_ne, iN_nz, n10_f, n01_f, ofN, qq_at_100, k110b, Nat.lt_irrefl, Nat.not_lt_zero, ne_eq, not_false_eq_true, not_true_eq_false, k0, k1, l1, f1, b_78_4, f2, b_78_11, e2, hn, hso2, oN, b_78_23, b_78_27, b_78_28, b_78_34, nr_ch, reduceCtorEq, ho]
      · simp (disch := omega) only [rd_I_mk, rd_R_mk, rd_L_mk, rd_D_mk, kd_mk, wr_I_mk, cp_mk, gd_true, bd_ret, bd_thr, vl_none, vl_some, iN_add, iN_mul, iN_sub, iN_lt, iN_eq, iN_n, iN_m1, iN_pred, vp_iN, K0_le, nr_b0, nr_b1, m1_lt, lt_m1, iN_ne_m1, m1_ne_iN, not_lt_z, true_and, and_true, and_self, or_true, true_or, or_false, false_or, if_true, if_false, ↓reduceIte, eq_self, up_at, up_a, up_k, cp_c, cp_b, Nat.zero_add, Nat.add_zero, Nat.sub_zero, Nat.le_refl, Nat.add_sub_cancel, fu_at, fu_ne, iN_nz, n10_f, n01_f, ofN, qq_at_100, k110b, Nat.lt_irrefl, Nat.not_lt_zero, ne_eq, not_false_eq_true, not_true_eq_false, k0, k1, l1, f1, b_78_4, f2, b_78_11, e2, hn, b_78_27, b_78_28, b_78_34, nr_ch, reduceCtorEq]
theorem c_writArgumentFault (hL : L_R τ b) (hR : R_R I b S) (hw : wS B S) (x n y : Int32) : CC (d + 1) 82 [.ref b, .int x, .int n, .int y] (I, τ) = some (.inl (some (.int (iN (ft_arg S x n y)))), (I, τ)) := by
  obtain ⟨hb, k0, k1, k2, k3, lp, lw, lm⟩ := hL
  obtain ⟨h1, h2, h3, h4, h5, h6, h7, h8⟩ := hR
  have l1 := lp.2.1
  have f1 := c_hasSta (d := d) lp h1 hw.2.1 x
  have f2 := c_isBetween (d := d) (I := I) (τ := τ) (lo := 0) (hi := 20) n
  have f3 := c_isBetween (d := d) (I := I) (τ := τ) (lo := 1) (hi := 60) y
  unfold ft_arg
  rw [c_82, b_82_0]
  cases hx : inN (p_ns (s_P S)) x with
  | false =>
    rw [hx, b01_f] at f1
    simp (disch := omega) only [rd_I_mk, rd_R_mk, rd_L_mk, rd_D_mk, kd_mk, wr_I_mk, cp_mk, gd_true, bd_ret, bd_thr, vl_none, vl_some, iN_add, iN_mul, iN_sub, iN_lt, iN_eq, iN_n, iN_m1, iN_pred, vp_iN, K0_le, nr_b0, nr_b1, m1_lt, lt_m1, iN_ne_m1, m1_ne_iN, not_lt_z, true_and, and_true, and_self, or_true, true_or, or_false, false_or, if_true, if_false, ↓reduceIte, eq_self, up_at, up_a, up_k, cp_c, cp_b, Nat.zero_add, Nat.add_zero, Nat.sub_zero, Nat.le_refl, Nat.add_sub_cancel, fu_at, fu_ne, iN_nz, n10_f, n01_f, ofN, qq_at_100, k110b, Nat.lt_irrefl, Nat.not_lt_zero, ne_eq, not_false_eq_true, not_true_eq_false, k0, k1, l1, f1, b_82_4, nr_ch]
  | true =>
    rw [hx, b01_t] at f1
    cases hn : inB 0 20 n with
    | false =>
      rw [hn, b01_f] at f2
      simp (disch := omega) only [rd_I_mk, rd_R_mk, rd_L_mk, rd_D_mk, kd_mk, wr_I_mk, cp_mk, gd_true, bd_ret, bd_thr, vl_none, vl_some, iN_add, iN_mul, iN_sub, iN_lt, iN_eq, iN_n, iN_m1, iN_pred, vp_iN, K0_le, nr_b0, nr_b1, m1_lt, lt_m1, iN_ne_m1, m1_ne_iN, not_lt_z, true_and, and_true, and_self, or_true, true_or, or_false, false_or, if_true, if_false, ↓reduceIte, eq_self, up_at, up_a, up_k, cp_c, cp_b, Nat.zero_add, Nat.add_zero, Nat.sub_zero, Nat.le_refl, Nat.add_sub_cancel, fu_at, fu_ne, iN_nz, n10_f, n01_f, ofN, qq_at_100, k110b, Nat.lt_irrefl, Nat.not_lt_zero, ne_eq, not_false_eq_true, not_true_eq_false, k0, k1, l1, f1, b_82_4, f2, b_82_11, b_82_19, b_82_20, b_82_26, nr_ch, reduceCtorEq, Bool.false_and]
    | true =>
      rw [hn, b01_t] at f2
      cases hy : inB 1 60 y with
      | false =>
        rw [hy, b01_f] at f3
        simp (disch := omega) only [rd_I_mk, rd_R_mk, rd_L_mk, rd_D_mk, kd_mk, wr_I_mk, cp_mk, gd_true, bd_ret, bd_thr, vl_none, vl_some, iN_add, iN_mul, iN_sub, iN_lt, iN_eq, iN_n, iN_m1, iN_pred, vp_iN, K0_le, nr_b0, nr_b1, m1_lt, lt_m1, iN_ne_m1, m1_ne_iN, not_lt_z, true_and, and_true, and_self, or_true, true_or, or_false, false_or, if_true, if_false, ↓reduceIte, eq_self, up_at, up_a, up_k, cp_c, cp_b, Nat.zero_add, Nat.add_zero, Nat.sub_zero, Nat.le_refl, Nat.add_sub_cancel, fu_at, fu_ne, iN_nz, n10_f, n01_f, ofN, qq_at_100, k110b, Nat.lt_irrefl, Nat.not_lt_zero, ne_eq, not_false_eq_true, not_true_eq_false, k0, k1, l1, f1, b_82_4, f2, b_82_11, f3, b_82_16, b_82_19, b_82_20, b_82_26, nr_ch, reduceCtorEq, Bool.true_and]
      | true =>
        rw [hy, b01_t] at f3
        simp (disch := omega) only [rd_I_mk, rd_R_mk, rd_L_mk, rd_D_mk, kd_mk, wr_I_mk, cp_mk, gd_true, bd_ret, bd_thr, vl_none, vl_some, iN_add, iN_mul, iN_sub, iN_lt, iN_eq, iN_n, iN_m1, iN_pred, vp_iN, K0_le, nr_b0, nr_b1, m1_lt, lt_m1, iN_ne_m1, m1_ne_iN, not_lt_z, true_and, and_true, and_self, or_true, true_or, or_false, false_or, if_true, if_false, ↓reduceIte, eq_self, up_at, up_a, up_k, cp_c, cp_b, Nat.zero_add, Nat.add_zero, Nat.sub_zero, Nat.le_refl, Nat.add_sub_cancel, fu_at, fu_ne, iN_nz, n10_f, n01_f, ofN, qq_at_100, k110b, Nat.lt_irrefl, Nat.not_lt_zero, ne_eq, not_false_eq_true, not_true_eq_false, k0, k1, l1, f1, b_82_4, f2, b_82_11, f3, b_82_16, b_82_19, b_82_20, b_82_26, nr_ch, reduceCtorEq, Bool.true_and]
theorem ft_arg_lt (S : sS) (x n y : Int32) : ft_arg S x n y < 1000 := by
  unfold ft_arg
  split
  · omega
  · split <;> omega
theorem c_writFault (hL : L_R τ b) (hR : R_R I b S) (hw : wS B S) (x n y : Int32) : CC (d + 2) 80 [.ref b, .int x, .int n, .int y] (I, τ) = some (.inl (some (.int (iN (ft_wri S x n y)))), (I, τ)) := by
  have f1 := c_writArgumentFault (d := d) hL hR hw x n y
  have f2 := c_isFull (d := d + 1) hL.2.2.2.2.2.2.1 hR.2.1 hw.2.2.1
  have hlt := ft_arg_lt S x n y
  obtain ⟨hb, k0, k1, k2, k3, lp, lw, lm⟩ := hL
  have l2 := lw.2.1
  unfold ft_wri
  rw [c_80, b_80_0]
  by_cases h : ft_arg S x n y = 45
  · rw [h] at f1
    by_cases hu : un (s_U S) < 8
    · rw [if_pos hu] at f2
      simp (disch := omega) only [rd_I_mk, rd_R_mk, rd_L_mk, rd_D_mk, kd_mk, wr_I_mk, cp_mk, gd_true, bd_ret, bd_thr, vl_none, vl_some, iN_add, iN_mul, iN_sub, iN_lt, iN_eq, iN_n, iN_m1, iN_pred, vp_iN, K0_le, nr_b0, nr_b1, m1_lt, lt_m1, iN_ne_m1, m1_ne_iN, not_lt_z, true_and, and_true, and_self, or_true, true_or, or_false, false_or, if_true, if_false, ↓reduceIte, eq_self, up_at, up_a, up_k, cp_c, cp_b, Nat.zero_add, Nat.add_zero, Nat.sub_zero, Nat.le_refl, Nat.add_sub_cancel, fu_at, fu_ne, iN_nz, n10_f, n01_f, ofN, qq_at_100, k110b, Nat.lt_irrefl, Nat.not_lt_zero, ne_eq, not_false_eq_true, not_true_eq_false, k0, f1, b_80_5, k2, l2, f2, b_80_12, b_80_15, b_80_16, nr_ch, h, hu]
    · rw [if_neg hu] at f2
      simp (disch := omega) only [rd_I_mk, rd_R_mk, rd_L_mk, rd_D_mk, kd_mk, wr_I_mk, cp_mk, gd_true, bd_ret, bd_thr, vl_none, vl_some, iN_add, iN_mul, iN_sub, iN_lt, iN_eq, iN_n, iN_m1, iN_pred, vp_iN, K0_le, nr_b0, nr_b1, m1_lt, lt_m1, iN_ne_m1, m1_ne_iN, not_lt_z, true_and, and_true, and_self, or_true, true_or, or_false, false_or, if_true, if_false, ↓reduceIte, eq_self, up_at, up_a, up_k, cp_c, cp_b, Nat.zero_add, Nat.add_zero, Nat.sub_zero, Nat.le_refl, Nat.add_sub_cancel, fu_at, fu_ne, iN_nz, n10_f, n01_f, ofN, qq_at_100, k110b, Nat.lt_irrefl, Nat.not_lt_zero, ne_eq, not_false_eq_true, not_true_eq_false, k0, f1, b_80_5, k2, l2, f2, b_80_12, b_80_15, b_80_16, nr_ch, h, hu]
  · simp (disch := omega) only [rd_I_mk, rd_R_mk, rd_L_mk, rd_D_mk, kd_mk, wr_I_mk, cp_mk, gd_true, bd_ret, bd_thr, vl_none, vl_some, iN_add, iN_mul, iN_sub, iN_lt, iN_eq, iN_n, iN_m1, iN_pred, vp_iN, K0_le, nr_b0, nr_b1, m1_lt, lt_m1, iN_ne_m1, m1_ne_iN, not_lt_z, true_and, and_true, and_self, or_true, true_or, or_false, false_or, if_true, if_false, ↓reduceIte, eq_self, up_at, up_a, up_k, cp_c, cp_b, Nat.zero_add, Nat.add_zero, Nat.sub_zero, Nat.le_refl, Nat.add_sub_cancel, fu_at, fu_ne, iN_nz, n10_f, n01_f, ofN, qq_at_100, k110b, Nat.lt_irrefl, Nat.not_lt_zero, ne_eq, not_false_eq_true, not_true_eq_false, k0, f1, b_80_5, h, b_80_15, b_80_16, nr_ch]
theorem c_followerFault (hL : L_R τ b) (hR : R_R I b S) (hw : wS B S) (x n y c : Int32) : CC (d + 2) 81 [.ref b, .int x, .int n, .int y, .int c] (I, τ) = some (.inl (some (.int (iN (ft_fol S x n y c)))), (I, τ)) := by
  have f1 := c_writArgumentFault (d := d) hL hR hw x n y
  have f2 := c_isFull (d := d + 1) hL.2.2.2.2.2.2.1 hR.2.1 hw.2.2.1
  have f3 := c_find (d := d + 1) hL.2.2.2.2.2.2.1 hR.2.1 hw.2.2.1 c
  have hlt := ft_arg_lt S x n y
  obtain ⟨hb, k0, k1, k2, k3, lp, lw, lm⟩ := hL
  have l2 := lw.2.1
  have w1 := hw.2.2.1.1
  unfold ft_fol
  rw [c_81, b_81_0]
  by_cases h : ft_arg S x n y = 45
  · rw [h] at f1
    cases hc : fiX (s_U S) c with
    | none =>
      rw [hc] at f3
      simp (disch := omega) only [rd_I_mk, rd_R_mk, rd_L_mk, rd_D_mk, kd_mk, wr_I_mk, cp_mk, gd_true, bd_ret, bd_thr, vl_none, vl_some, iN_add, iN_mul, iN_sub, iN_lt, iN_eq, iN_n, iN_m1, iN_pred, vp_iN, K0_le, nr_b0, nr_b1, m1_lt, lt_m1, iN_ne_m1, m1_ne_iN, not_lt_z, true_and, and_true, and_self, or_true, true_or, or_false, false_or, if_true, if_false, ↓reduceIte, eq_self, up_at, up_a, up_k, cp_c, cp_b, Nat.zero_add, Nat.add_zero, Nat.sub_zero, Nat.le_refl, Nat.add_sub_cancel, fu_at, fu_ne, iN_nz, n10_f, n01_f, ofN, qq_at_100, k110b, Nat.lt_irrefl, Nat.not_lt_zero, ne_eq, not_false_eq_true, not_true_eq_false, k0, f1, b_81_5, k2, l2, f3, oN, b_81_13, nr_ch, h, hc]
    | some j =>
      have hj := fiX_lt hc
      rw [hc] at f3
      by_cases hu : un (s_U S) < 8
      · rw [if_pos hu] at f2
        simp (disch := omega) only [rd_I_mk, rd_R_mk, rd_L_mk, rd_D_mk, kd_mk, wr_I_mk, cp_mk, gd_true, bd_ret, bd_thr, vl_none, vl_some, iN_add, iN_mul, iN_sub, iN_lt, iN_eq, iN_n, iN_m1, iN_pred, vp_iN, K0_le, nr_b0, nr_b1, m1_lt, lt_m1, iN_ne_m1, m1_ne_iN, not_lt_z, true_and, and_true, and_self, or_true, true_or, or_false, false_or, if_true, if_false, ↓reduceIte, eq_self, up_at, up_a, up_k, cp_c, cp_b, Nat.zero_add, Nat.add_zero, Nat.sub_zero, Nat.le_refl, Nat.add_sub_cancel, fu_at, fu_ne, iN_nz, n10_f, n01_f, ofN, qq_at_100, k110b, Nat.lt_irrefl, Nat.not_lt_zero, ne_eq, not_false_eq_true, not_true_eq_false, k0, f1, b_81_5, k2, l2, f3, oN, b_81_13, b_81_17, f2, b_81_23, b_81_26, b_81_27, nr_ch, h, hu, hc, reduceCtorEq]
      · rw [if_neg hu] at f2
        simp (disch := omega) only [rd_I_mk, rd_R_mk, rd_L_mk, rd_D_mk, kd_mk, wr_I_mk, cp_mk, gd_true, bd_ret, bd_thr, vl_none, vl_some, iN_add, iN_mul, iN_sub, iN_lt, iN_eq, iN_n, iN_m1, iN_pred, vp_iN, K0_le, nr_b0, nr_b1, m1_lt, lt_m1, iN_ne_m1, m1_ne_iN, not_lt_z, true_and, and_true, and_self, or_true, true_or, or_false, false_or, if_true, if_false, ↓reduceIte, eq_self, up_at, up_a, up_k, cp_c, cp_b, Nat.zero_add, Nat.add_zero, Nat.sub_zero, Nat.le_refl, Nat.add_sub_cancel, fu_at, fu_ne, iN_nz, n10_f, n01_f, ofN, qq_at_100, k110b, Nat.lt_irrefl, Nat.not_lt_zero, ne_eq, not_false_eq_true, not_true_eq_false, k0, f1, b_81_5, k2, l2, f3, oN, b_81_13, b_81_17, f2, b_81_23, b_81_26, b_81_27, nr_ch, h, hu, hc, reduceCtorEq]
  · simp (disch := omega) only [rd_I_mk, rd_R_mk, rd_L_mk, rd_D_mk, kd_mk, wr_I_mk, cp_mk, gd_true, bd_ret, bd_thr, vl_none, vl_some, iN_add, iN_mul, iN_sub, iN_lt, iN_eq, iN_n, iN_m1, iN_pred, vp_iN, K0_le, nr_b0, nr_b1, m1_lt, lt_m1, iN_ne_m1, m1_ne_iN, not_lt_z, true_and, and_true, and_self, or_true, true_or, or_false, false_or, if_true, if_false, ↓reduceIte, eq_self, up_at, up_a, up_k, cp_c, cp_b, Nat.zero_add, Nat.add_zero, Nat.sub_zero, Nat.le_refl, Nat.add_sub_cancel, fu_at, fu_ne, iN_nz, n10_f, n01_f, ofN, qq_at_100, k110b, Nat.lt_irrefl, Nat.not_lt_zero, ne_eq, not_false_eq_true, not_true_eq_false, k0, f1, b_81_5, h, b_81_17, b_81_26, b_81_27, nr_ch]
theorem c_blockFault (hL : L_R τ b) (hR : R_R I b S) (hw : wS B S) (x y : Int32) : CC (d + 1) 84 [.ref b, .int x, .int y] (I, τ) = some (.inl (some (.int (iN (ft_blk S x y)))), (I, τ)) := by
  have f2 := c_isBetween (d := d) (I := I) (τ := τ) (lo := 1) (hi := 20) x
  have f3 := c_isBetween (d := d) (I := I) (τ := τ) (lo := 1) (hi := 9) y
  have hm := wS_M hw
  obtain ⟨hb, k0, k1, k2, k3, lp, lw, lm⟩ := hL
  obtain ⟨h1, h2, h3, h4, h5, h6, h7, h8⟩ := hR
  obtain ⟨-, l0, l1, l2, i1, i2⟩ := lm
  unfold ft_blk
  rw [c_84, b_84_0]
  cases hx : inB 1 20 x with
  | false =>
    rw [hx, b01_f] at f2
    simp (disch := omega) only [rd_I_mk, rd_R_mk, rd_L_mk, rd_D_mk, kd_mk, wr_I_mk, cp_mk, gd_true, bd_ret, bd_thr, vl_none, vl_some, iN_add, iN_mul, iN_sub, iN_lt, iN_eq, iN_n, iN_m1, iN_pred, vp_iN, K0_le, nr_b0, nr_b1, m1_lt, lt_m1, iN_ne_m1, m1_ne_iN, not_lt_z, true_and, and_true, and_self, or_true, true_or, or_false, false_or, if_true, if_false, ↓reduceIte, eq_self, up_at, up_a, up_k, cp_c, cp_b, Nat.zero_add, Nat.add_zero, Nat.sub_zero, Nat.le_refl, Nat.add_sub_cancel, fu_at, fu_ne, iN_nz, n10_f, n01_f, ofN, qq_at_100, k110b, Nat.lt_irrefl, Nat.not_lt_zero, ne_eq, not_false_eq_true, not_true_eq_false, f2, b_84_4, b_84_10, nr_ch, Bool.false_and, reduceCtorEq]
  | true =>
    rw [hx, b01_t] at f2
    obtain ⟨k, hk1, hk2, rfl⟩ := (inB_iff (by omega) (by omega)).mp hx
    cases hy : inB 1 9 y with
    | false =>
      rw [hy, b01_f] at f3
      simp (disch := omega) only [rd_I_mk, rd_R_mk, rd_L_mk, rd_D_mk, kd_mk, wr_I_mk, cp_mk, gd_true, bd_ret, bd_thr, vl_none, vl_some, iN_add, iN_mul, iN_sub, iN_lt, iN_eq, iN_n, iN_m1, iN_pred, vp_iN, K0_le, nr_b0, nr_b1, m1_lt, lt_m1, iN_ne_m1, m1_ne_iN, not_lt_z, true_and, and_true, and_self, or_true, true_or, or_false, false_or, if_true, if_false, ↓reduceIte, eq_self, up_at, up_a, up_k, cp_c, cp_b, Nat.zero_add, Nat.add_zero, Nat.sub_zero, Nat.le_refl, Nat.add_sub_cancel, fu_at, fu_ne, iN_nz, n10_f, n01_f, ofN, qq_at_100, k110b, Nat.lt_irrefl, Nat.not_lt_zero, ne_eq, not_false_eq_true, not_true_eq_false, f2, b_84_4, f3, b_84_9, b_84_10, nr_ch, Bool.true_and, reduceCtorEq]
    | true =>
      rw [hy, b01_t] at f3
      obtain ⟨c, hc1, hc2, rfl⟩ := (inB_iff (by omega) (by omega)).mp hy
      have e1 := h3.1 k (by omega)
      have e2 := hm k (by omega)
      by_cases hq : 99 < m_bl (s_M S) k + c
      · simp (disch := omega) only [rd_I_mk, rd_R_mk, rd_L_mk, rd_D_mk, kd_mk, wr_I_mk, cp_mk, gd_true, bd_ret, bd_thr, vl_none, vl_some, iN_add, iN_mul, iN_sub, iN_lt, iN_eq, iN_n, iN_m1, iN_pred, vp_iN, K0_le, nr_b0, nr_b1, m1_lt, lt_m1, iN_ne_m1, m1_ne_iN, not_lt_z, true_and, and_true, and_self, or_true, true_or, or_false, false_or, if_true, if_false, ↓reduceIte, eq_self, up_at, up_a, up_k, cp_c, cp_b, Nat.zero_add, Nat.add_zero, Nat.sub_zero, Nat.le_refl, Nat.add_sub_cancel, fu_at, fu_ne, iN_nz, n10_f, n01_f, ofN, qq_at_100, k110b, Nat.lt_irrefl, Nat.not_lt_zero, ne_eq, not_false_eq_true, not_true_eq_false, f2, b_84_4, f3, b_84_9, nr_ch, Bool.true_and, k0, k3, l0, l1, i1, e1, hq, b_84_24]
      · simp (disch := omega) only [rd_I_mk, rd_R_mk, rd_L_mk, rd_D_mk, kd_mk, wr_I_mk, cp_mk, gd_true, bd_ret, bd_thr, vl_none, vl_some, iN_add, iN_mul, iN_sub, iN_lt, iN_eq, iN_n, iN_m1, iN_pred, vp_iN, K0_le, nr_b0, nr_b1, m1_lt, lt_m1, iN_ne_m1, m1_ne_iN, not_lt_z, true_and, and_true, and_self, or_true, true_or, or_false, false_or, if_true, if_false, ↓reduceIte, eq_self, up_at, up_a, up_k, cp_c, cp_b, Nat.zero_add, Nat.add_zero, Nat.sub_zero, Nat.le_refl, Nat.add_sub_cancel, fu_at, fu_ne, iN_nz, n10_f, n01_f, ofN, qq_at_100, k110b, Nat.lt_irrefl, Nat.not_lt_zero, ne_eq, not_false_eq_true, not_true_eq_false, f2, b_84_4, f3, b_84_9, nr_ch, Bool.true_and, k0, k3, l0, l1, i1, e1, hq, b_84_24]
theorem caC_eq {h n : Nat} (hh : h < 1000000) (hn : n < 1000000) : (caC h = iN n) = (h = n + 1) := by
  by_cases q : h = 0
  · rw [q, caC_0, m1_ne_iN (by omega)]
    exact (eq_false (by omega)).symm
  · obtain ⟨c, rfl⟩ : ∃ c, h = c + 1 := ⟨h - 1, by omega⟩
    rw [caC_s, iN_eq (by omega) (by omega)]
    exact propext ⟨fun z => by omega, fun z => by omega⟩
theorem c_hearFault (hL : L_R τ b) (hR : R_R I b S) (hw : wS B S) (x : Int32) : CC (d + 1) 87 [.ref b, .int x] (I, τ) = some (.inl (some (.int (iN (ft_hea S x)))), (I, τ)) := by
  have f3 := c_find (d := d) hL.2.2.2.2.2.2.1 hR.2.1 hw.2.2.1 x
  obtain ⟨hb, k0, k1, k2, k3, lp, lw, lm⟩ := hL
  obtain ⟨h1, h2, h3, h4, h5, h6, h7, h8⟩ := hR
  have l2 := lw.2.1
  have w1 := hw.2.2.1.1
  have wb := hw.1
  have w5 := hw.2.2.2.2.1
  have w8 := hw.2.2.2.2.2.2.2.1
  have he := caC_eq (h := s_he S) (n := s_ni S) (by omega) (by omega)
  unfold ft_hea
  rw [c_87, b_87_0]
  cases hc : fiX (s_U S) x with
  | none =>
    rw [hc] at f3
    simp (disch := omega) only [rd_I_mk, rd_R_mk, rd_L_mk, rd_D_mk, kd_mk, wr_I_mk, cp_mk, gd_true, bd_ret, bd_thr, vl_none, vl_some, iN_add, iN_mul, iN_sub, iN_lt, iN_eq, iN_n, iN_m1, iN_pred, vp_iN, K0_le, nr_b0, nr_b1, m1_lt, lt_m1, iN_ne_m1, m1_ne_iN, not_lt_z, true_and, and_true, and_self, or_true, true_or, or_false, false_or, if_true, if_false, ↓reduceIte, eq_self, up_at, up_a, up_k, cp_c, cp_b, Nat.zero_add, Nat.add_zero, Nat.sub_zero, Nat.le_refl, Nat.add_sub_cancel, fu_at, fu_ne, iN_nz, n10_f, n01_f, ofN, qq_at_100, k110b, Nat.lt_irrefl, Nat.not_lt_zero, ne_eq, not_false_eq_true, not_true_eq_false, k0, k2, l2, f3, oN, b_87_4, nr_ch]
  | some j =>
    have hj := fiX_lt hc
    rw [hc] at f3
    by_cases q : s_he S = s_ni S + 1
    · simp (disch := omega) only [rd_I_mk, rd_R_mk, rd_L_mk, rd_D_mk, kd_mk, wr_I_mk, cp_mk, gd_true, bd_ret, bd_thr, vl_none, vl_some, iN_add, iN_mul, iN_sub, iN_lt, iN_eq, iN_n, iN_m1, iN_pred, vp_iN, K0_le, nr_b0, nr_b1, m1_lt, lt_m1, iN_ne_m1, m1_ne_iN, not_lt_z, true_and, and_true, and_self, or_true, true_or, or_false, false_or, if_true, if_false, ↓reduceIte, eq_self, up_at, up_a, up_k, cp_c, cp_b, Nat.zero_add, Nat.add_zero, Nat.sub_zero, Nat.le_refl, Nat.add_sub_cancel, fu_at, fu_ne, iN_nz, n10_f, n01_f, ofN, qq_at_100, k110b, Nat.lt_irrefl, Nat.not_lt_zero, ne_eq, not_false_eq_true, not_true_eq_false, k0, k2, l2, f3, oN, b_87_4, h4, h5, he, b_87_16, nr_ch, reduceCtorEq]
      simp only [if_pos q]
    · simp (disch := omega) only [rd_I_mk, rd_R_mk, rd_L_mk, rd_D_mk, kd_mk, wr_I_mk, cp_mk, gd_true, bd_ret, bd_thr, vl_none, vl_some, iN_add, iN_mul, iN_sub, iN_lt, iN_eq, iN_n, iN_m1, iN_pred, vp_iN, K0_le, nr_b0, nr_b1, m1_lt, lt_m1, iN_ne_m1, m1_ne_iN, not_lt_z, true_and, and_true, and_self, or_true, true_or, or_false, false_or, if_true, if_false, ↓reduceIte, eq_self, up_at, up_a, up_k, cp_c, cp_b, Nat.zero_add, Nat.add_zero, Nat.sub_zero, Nat.le_refl, Nat.add_sub_cancel, fu_at, fu_ne, iN_nz, n10_f, n01_f, ofN, qq_at_100, k110b, Nat.lt_irrefl, Nat.not_lt_zero, ne_eq, not_false_eq_true, not_true_eq_false, k0, k2, l2, f3, oN, b_87_4, h4, h5, he, b_87_16, nr_ch, reduceCtorEq]
      simp only [if_neg q]
def fnt (S : sS) : Nat := if s_he S = s_ni S + 1 then s_ni S + 1 else s_ni S
theorem c_firstNight (hL : L_R τ b) (hR : R_R I b S) (hw : wS B S) : CC d 91 [.ref b] (I, τ) = some (.inl (some (.int (iN (fnt S)))), (I, τ)) := by
  obtain ⟨hb, k0, k1, k2, k3, lp, lw, lm⟩ := hL
  obtain ⟨h1, h2, h3, h4, h5, h6, h7, h8⟩ := hR
  have wb := hw.1
  have w5 := hw.2.2.2.2.1
  have w8 := hw.2.2.2.2.2.2.2.1
  have he := caC_eq (h := s_he S) (n := s_ni S) (by omega) (by omega)
  unfold fnt
  rw [c_91, b_91_0]
  by_cases q : s_he S = s_ni S + 1
  · simp (disch := omega) only [rd_I_mk, rd_R_mk, rd_L_mk, rd_D_mk, kd_mk, wr_I_mk, cp_mk, gd_true, bd_ret, bd_thr, vl_none, vl_some, iN_add, iN_mul, iN_sub, iN_lt, iN_eq, iN_n, iN_m1, iN_pred, vp_iN, K0_le, nr_b0, nr_b1, m1_lt, lt_m1, iN_ne_m1, m1_ne_iN, not_lt_z, true_and, and_true, and_self, or_true, true_or, or_false, false_or, if_true, if_false, ↓reduceIte, eq_self, up_at, up_a, up_k, cp_c, cp_b, Nat.zero_add, Nat.add_zero, Nat.sub_zero, Nat.le_refl, Nat.add_sub_cancel, fu_at, fu_ne, iN_nz, n10_f, n01_f, ofN, qq_at_100, k110b, Nat.lt_irrefl, Nat.not_lt_zero, ne_eq, not_false_eq_true, not_true_eq_false, k0, h4, h5, he, b_91_12]
    simp only [if_pos q]
  · simp (disch := omega) only [rd_I_mk, rd_R_mk, rd_L_mk, rd_D_mk, kd_mk, wr_I_mk, cp_mk, gd_true, bd_ret, bd_thr, vl_none, vl_some, iN_add, iN_mul, iN_sub, iN_lt, iN_eq, iN_n, iN_m1, iN_pred, vp_iN, K0_le, nr_b0, nr_b1, m1_lt, lt_m1, iN_ne_m1, m1_ne_iN, not_lt_z, true_and, and_true, and_self, or_true, true_or, or_false, false_or, if_true, if_false, ↓reduceIte, eq_self, up_at, up_a, up_k, cp_c, cp_b, Nat.zero_add, Nat.add_zero, Nat.sub_zero, Nat.le_refl, Nat.add_sub_cancel, fu_at, fu_ne, iN_nz, n10_f, n01_f, ofN, qq_at_100, k110b, Nat.lt_irrefl, Nat.not_lt_zero, ne_eq, not_false_eq_true, not_true_eq_false, k0, h4, h5, he, b_91_12]
    simp only [if_neg q]
theorem c_nightFault (n : Int32) : CC (d + 1) 92 [.ref b, .int n] (I, τ) = some (.inl (some (.int (iN (ft_nig n)))), (I, τ)) := by
  have f2 := c_isBetween (d := d) (I := I) (τ := τ) (lo := 1) (hi := 50) n
  unfold ft_nig
  rw [c_92, b_92_0]
  cases hx : inB 1 50 n with
  | false =>
    rw [hx, b01_f] at f2
    simp (disch := omega) only [rd_I_mk, rd_R_mk, rd_L_mk, rd_D_mk, kd_mk, wr_I_mk, cp_mk, gd_true, bd_ret, bd_thr, vl_none, vl_some, iN_add, iN_mul, iN_sub, iN_lt, iN_eq, iN_n, iN_m1, iN_pred, vp_iN, K0_le, nr_b0, nr_b1, m1_lt, lt_m1, iN_ne_m1, m1_ne_iN, not_lt_z, true_and, and_true, and_self, or_true, true_or, or_false, false_or, if_true, if_false, ↓reduceIte, eq_self, up_at, up_a, up_k, cp_c, cp_b, Nat.zero_add, Nat.add_zero, Nat.sub_zero, Nat.le_refl, Nat.add_sub_cancel, fu_at, fu_ne, iN_nz, n10_f, n01_f, ofN, qq_at_100, k110b, Nat.lt_irrefl, Nat.not_lt_zero, ne_eq, not_false_eq_true, not_true_eq_false, f2, b_92_4, b_92_8, nr_ch, reduceCtorEq]
  | true =>
    rw [hx, b01_t] at f2
    simp (disch := omega) only [rd_I_mk, rd_R_mk, rd_L_mk, rd_D_mk, kd_mk, wr_I_mk, cp_mk, gd_true, bd_ret, bd_thr, vl_none, vl_some, iN_add, iN_mul, iN_sub, iN_lt, iN_eq, iN_n, iN_m1, iN_pred, vp_iN, K0_le, nr_b0, nr_b1, m1_lt, lt_m1, iN_ne_m1, m1_ne_iN, not_lt_z, true_and, and_true, and_self, or_true, true_or, or_false, false_or, if_true, if_false, ↓reduceIte, eq_self, up_at, up_a, up_k, cp_c, cp_b, Nat.zero_add, Nat.add_zero, Nat.sub_zero, Nat.le_refl, Nat.add_sub_cancel, fu_at, fu_ne, iN_nz, n10_f, n01_f, ofN, qq_at_100, k110b, Nat.lt_irrefl, Nat.not_lt_zero, ne_eq, not_false_eq_true, not_true_eq_false, f2, b_92_4, b_92_8, nr_ch]
end RM
