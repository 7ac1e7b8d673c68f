/-! THE TILL: the search, with its bits -/
def zI (z : Int) : Int32 := Int32.ofInt z
theorem zI_iN (n : Nat) : iN n = zI n := iN_oi n
theorem zI_sub (a b : Int) : zI a - zI b = zI (a - b) := (Int32.ofInt_sub a b).symm
theorem zI_lt {a b : Int} (ha : -1000000 < a ∧ a < 1000000) (hb : -1000000 < b ∧ b < 1000000) : (zI a < zI b) = (a < b) := by
  unfold zI
  rw [Int32.lt_iff_toInt_lt, Int32.toInt_ofInt_of_le (by omega) (by omega), Int32.toInt_ofInt_of_le (by omega) (by omega)]
/-- longs changed -/
def uL (τ : qq_R) (a k : Nat) (v : Int64) : qq_R := (τ.1, up_2 τ.2.1 a k v, τ.2.2)
theorem wr_L_mk {I : qq_I} {τ : qq_R} {a k : Nat} {v : Int64} : wr_L (I, τ) a k v = (I, uL τ a k v) := rfl
theorem uL_K {τ : qq_R} {a k b : Nat} {v : Int64} : tK (uL τ a k v) b = tK τ b := rfl
theorem uL_R {τ : qq_R} {a k b j : Nat} {v : Int64} : tR (uL τ a k v) b j = tR τ b j := rfl
theorem uL_at {τ : qq_R} {a k : Nat} {v : Int64} : tL (uL τ a k v) a k = v := if_pos ⟨rfl, rfl⟩
theorem uL_k {τ : qq_R} {a k j : Nat} {v : Int64} (h : j ≠ k) : tL (uL τ a k v) a j = tL τ a j := if_neg (fun q => h q.2)
/-- all but the longs of one cell are the same -/
def Lq (c : Nat) (τ τ' : qq_R) : Prop := τ'.1 = τ.1 ∧ τ'.2.2 = τ.2.2 ∧ ∀ a, a ≠ c → τ'.2.1 a = τ.2.1 a
theorem Lq_rf {c : Nat} {τ : qq_R} : Lq c τ τ := ⟨rfl, rfl, fun _ _ => rfl⟩
theorem Lq_up {c k : Nat} {v : Int64} {τ τ' : qq_R} (h : Lq c τ τ') : Lq c τ (uL τ' c k v) := ⟨h.1, h.2.1, fun a ha => by
  show up_2 τ'.2.1 c k v a = _
  rw [← h.2.2 a ha]
  exact funext (fun j => if_neg (fun q => ha q.1))⟩
theorem Lq_K {c a : Nat} {τ τ' : qq_R} (h : Lq c τ τ') : tK τ' a = tK τ a := by unfold tK; rw [h.2.1]
theorem Lq_R {c a k : Nat} {τ τ' : qq_R} (h : Lq c τ τ') : tR τ' a k = tR τ a k := by unfold tR; rw [h.1]
def bL (x : Int64) (a : Nat) : Bool := x.toBitVec.getLsbD a
theorem bL_or (x y : Int64) (a : Nat) : bL (x ||| y) a = (bL x a || bL y a) := by unfold bL; rw [Int64.toBitVec_or, BitVec.getLsbD_or]
theorem cnt64 : ∀ k, k < 64 → (((iN k).toInt64 &&& 63).toBitVec.smod 64).toNat = k := by decide +kernel
theorem bL_shl (x : Int64) {k : Nat} (hk : k < 64) {a : Nat} (ha : a < 64) : bL (x <<< ((iN k).toInt64 &&& 63)) a = (decide (k ≤ a) && bL x (a - k)) := by
  unfold bL
  rw [Int64.toBitVec_shiftLeft]
  show (x.toBitVec <<< (((iN k).toInt64 &&& 63).toBitVec.smod 64).toNat).getLsbD a = _
  rw [cnt64 k hk, BitVec.getLsbD_shiftLeft]
  rcases Nat.lt_or_ge a k with h | h
  · simp [h, Nat.not_le.mpr h]
  · simp [ha, h, Nat.not_lt.mpr h]
theorem bL_one (a : Nat) : bL (Int64.ofNat 1) a = decide (a = 0) := by
  unfold bL
  show (BitVec.ofNat 64 1).getLsbD a = _
  rw [BitVec.getLsbD_ofNat]
  rcases a with _ | a
  · decide
  · have : Nat.testBit 1 (a + 1) = false := by rw [Nat.testBit_succ]; simp
    rw [this]; simp
theorem bL_test (x : Int64) {k : Nat} (hk : k < 64) : (lg_cmp ((x >>> ((iN k).toInt64 &&& 63)) &&& Int64.ofNat 1) (Int64.ofNat 0) = iN 0) = (bL x k = false) := by
  have e1 : (x >>> ((iN k).toInt64 &&& 63)).toBitVec = x.toBitVec.sshiftRight k := by
    rw [Int64.toBitVec_shiftRight]
    show x.toBitVec.sshiftRight (((iN k).toInt64 &&& 63).toBitVec.smod 64).toNat = _
    rw [cnt64 k hk]
  have e2 : ((x >>> ((iN k).toInt64 &&& 63)) &&& Int64.ofNat 1) = if bL x k = true then Int64.ofNat 1 else Int64.ofNat 0 := by
    apply Int64.toBitVec_inj.mp
    rw [Int64.toBitVec_and, e1]
    show x.toBitVec.sshiftRight k &&& BitVec.ofNat 64 1 = _
    apply BitVec.eq_of_getLsbD_eq
    intro i hi
    rw [BitVec.getLsbD_and, BitVec.getLsbD_sshiftRight, BitVec.getLsbD_ofNat]
    rcases i with _ | i
    · by_cases hb : bL x k = true
      · rw [if_pos hb]
        unfold bL at hb
        simp [hk, hb]
      · rw [if_neg hb]
        unfold bL at hb
        have hb2 : x.toBitVec[k] = false := by rw [← BitVec.getLsbD_eq_getElem hk]; simpa using hb
        simp [hk, hb2]
    · have h1 : Nat.testBit 1 (i + 1) = false := by rw [Nat.testBit_succ]; simp
      by_cases hb : bL x k = true
      · rw [if_pos hb]
        show _ = (BitVec.ofNat 64 1).getLsbD (i + 1)
        rw [BitVec.getLsbD_ofNat, h1]; simp
      · rw [if_neg hb]
        show _ = (BitVec.ofNat 64 0).getLsbD (i + 1)
        rw [BitVec.getLsbD_ofNat, h1]; simp
  rw [e2]
  by_cases hb : bL x k = true
  · rw [if_pos hb, hb]
    exact (eq_false (by decide)).trans (eq_false (by decide)).symm
  · rw [if_neg hb]
    have hb : bL x k = false := by simpa using hb
    rw [hb]
    exact (eq_true (by decide)).trans (eq_true rfl).symm
/-- which amounts blocks of weights up to w add up to -/
def rb (bl : Nat → Nat) (w a : Nat) : Bool := !(fw bl w a == 1000)
theorem rb_0 {bl : Nat → Nat} {a : Nat} : rb bl 0 a = decide (a = 0) := by
  unfold rb
  rw [fw]
  by_cases h : a = 0
  · rw [if_pos h, h]; rfl
  · rw [if_neg h, decide_eq_false h]; rfl
/-- by so many takes -/
def rbk (bl : Nat → Nat) (w a : Nat) : Nat → Bool
  | 0 => rb bl w a
  | k + 1 => rbk bl w a k || (decide ((k + 1) * (w + 1) ≤ a) && rb bl w (a - (k + 1) * (w + 1)))
theorem rbk_iff {bl : Nat → Nat} {w a : Nat} : ∀ K, rbk bl w a K = true ↔ ∃ k, k ≤ K ∧ k * (w + 1) ≤ a ∧ rb bl w (a - k * (w + 1)) = true := by
  intro K
  induction K with
  | zero =>
    rw [rbk]
    constructor
    · intro h; exact ⟨0, Nat.le_refl _, by omega, by rw [Nat.zero_mul]; exact h⟩
    · rintro ⟨k, h1, -, h3⟩
      rw [show k = 0 by omega, Nat.zero_mul] at h3
      exact h3
  | succ K ih =>
    rw [rbk, Bool.or_eq_true, ih, Bool.and_eq_true, decide_eq_true_eq]
    constructor
    · rintro (⟨k, h1, h2⟩ | h)
      · exact ⟨k, by omega, h2⟩
      · exact ⟨K + 1, Nat.le_refl _, h⟩
    · rintro ⟨k, h1, h2⟩
      by_cases e : k = K + 1
      · subst e; exact Or.inr h2
      · exact Or.inl ⟨k, by omega, h2⟩
theorem rb_iff {bl : Nat → Nat} {w a : Nat} : rb bl w a = true ↔ fw bl w a ≠ 1000 := by
  unfold rb
  rw [Bool.not_eq_true', beq_eq_false_iff_ne]
theorem rb_s {bl : Nat → Nat} {w a : Nat} (ha : a ≤ 60) : rb bl (w + 1) a = rbk bl w a (min (bl (w + 1)) (60 / (w + 1))) := by
  rw [Bool.eq_iff_iff, rbk_iff, rb_iff]
  constructor
  · intro h
    rw [fw] at h
    obtain ⟨k, h1, h2⟩ := fmn_ex (g := fw bl w) (wt := w + 1) (a := a) (min (bl (w + 1)) (a / (w + 1)))
    have h3 := k_mul h1
    have hle := @fw_le bl (w + 1) a
    rw [fw] at hle
    have h4 : a / (w + 1) ≤ 60 / (w + 1) := Nat.div_le_div_right ha
    refine ⟨k, by omega, h3, rb_iff.mpr (fun z => h ?_)⟩
    omega
  · rintro ⟨k, h1, h2, h3⟩
    rw [rb_iff] at h3
    have h4 : k ≤ a / (w + 1) := (Nat.le_div_iff_mul_le (by omega)).mpr h2
    have h5 := fmn_le (g := fw bl w) (wt := w + 1) (a := a) (min (bl (w + 1)) (a / (w + 1))) k (by omega)
    have h6 := @fw_bd bl w (a - k * (w + 1)) (by omega)
    have h7 : k ≤ k * (w + 1) := Nat.le_mul_of_pos_right _ (by omega)
    rw [fw]
    omega
section SR
variable {d : Nat} {I : qq_I} {τ : qq_R} {t s : Nat} {bl : Nat → Nat}
theorem c_markReachable (hT : L_T τ t) (hs : tK τ s = (100, 21)) (hS : ∀ w, w < 21 → I s w = iN (bl w)) (hb : ∀ w, w < 21 → bl w < 1000000) :
    ∃ τ', CC d 117 [.ref t, .ref s] (I, τ) = some (.inl none, (I, τ')) ∧ Lq (t + 23) τ τ' ∧ (∀ w a, w < 21 → a ≤ 60 → bL (tL τ' (t + 23) w) a = rb bl w a) := by
  obtain ⟨ht, k0, k1, k2, q1, q2, q3, q4⟩ := hT
  have inner : ∀ m w k (σ : qq_R), w < 20 → k + m = min (bl (w + 1)) (60 / (w + 1)) → Lq (t + 23) τ σ → (∀ v a, v ≤ w → a ≤ 60 → bL (tL σ (t + 23) v) a = rb bl v a) → (∀ a, a ≤ 60 → bL (tL σ (t + 23) (w + 1)) a = rbk bl w a k) →
      ∃ τ' x4, RR d 117 30 [some (.ref t), some (.ref s), some (.int (iN (w + 1))), some (.int (iN (min (bl (w + 1)) (60 / (w + 1))))), some (.int (iN (k + 1)))] [] (I, σ) = RR d 117 7 [some (.ref t), some (.ref s), some (.int (iN (w + 2))), some (.int (iN (min (bl (w + 1)) (60 / (w + 1))))), some (.int x4)] [] (I, τ') ∧ Lq (t + 23) τ τ' ∧ (∀ v a, v ≤ w + 1 → a ≤ 60 → bL (tL τ' (t + 23) v) a = rb bl v a) := by
    intro m
    induction m with
    | zero =>
      intro w k σ hw hk g1 g2 g3
      have hdv : 60 / (w + 1) ≤ 60 := Nat.div_le_self _ _
      refine ⟨σ, iN (k + 1), ?_, g1, fun v a hv ha => ?_⟩
      · rw [b_117_30]
        have e : min (bl (w + 1)) (60 / (w + 1)) < k + 1 := by omega
        simp (disch := omega) only [iN_lt, e, if_true, iN_add]
      · by_cases ev : v = w + 1
        · rw [ev, g3 a ha, rb_s ha, show k = min (bl (w + 1)) (60 / (w + 1)) by omega]
        · exact g2 v a (by omega) ha
    | succ m ih =>
      intro w k σ hw hk g1 g2 g3
      have hdv : 60 / (w + 1) ≤ 60 := Nat.div_le_self _ _
      have e : ¬ min (bl (w + 1)) (60 / (w + 1)) < k + 1 := by omega
      have hkk : (k + 1) * (w + 1) ≤ 60 := k_mul (K := bl (w + 1)) (by omega)
      have j0 : tK σ t = (10, 0) := (Lq_K g1).trans k0
      have j2 : tR σ t 1 = t + 23 := (Lq_R g1).trans k2
      have j4 : tK σ (t + 23) = (105, 21) := (Lq_K g1).trans q4
      have e6 : iN (w + 1) - iN 1 = iN w := iN_sub (by omega)
      generalize hX : tL σ (t + 23) (w + 1) ||| tL σ (t + 23) w <<< ((iN ((k + 1) * (w + 1))).toInt64 &&& 63) = X
      obtain ⟨τ', x4, s1, s2, s3⟩ := ih w (k + 1) (uL σ (t + 23) (w + 1) X) hw (by omega) (Lq_up g1) (fun v a hv ha => by rw [uL_k (by omega)]; exact g2 v a hv ha) (fun a ha => by
        rw [uL_at, ← hX, bL_or, bL_shl _ (by omega) (by omega), g3 a ha, rbk]
        congr 1
        by_cases hh : (k + 1) * (w + 1) ≤ a
        · rw [decide_eq_true hh, g2 w (a - (k + 1) * (w + 1)) (Nat.le_refl _) (by omega)]
        · rw [decide_eq_false hh]; rfl)
      refine ⟨τ', x4, ?_, s2, s3⟩
      rw [← s1, b_117_30]
      simp (disch := omega) only [rd_I_mk, rd_R_mk, rd_L_mk, rd_D_mk, kd_mk, wr_I_mk, cp_mk, gd_true, bd_ret, bd_thr, vl_none, vl_some, iN_add, iN_mul, iN_lt, iN_eq, iN_n, iN_m1, iN_pred, vp_iN, K0_le, nr_b0, nr_b1, m1_lt, lt_m1, iN_ne_m1, m1_ne_iN, not_lt_z, true_and, and_true, and_self, or_true, true_or, or_false, false_or, if_true, if_false, ↓reduceIte, eq_self, up_at, up_a, up_k, cp_c, cp_b, Nat.zero_add, Nat.add_zero, Nat.sub_zero, Nat.le_refl, Nat.add_sub_cancel, fu_at, fu_ne, iN_nz, n10_f, n01_f, ofN, qq_at_100, k110b, Nat.lt_irrefl, Nat.not_lt_zero, ne_eq, not_false_eq_true, not_true_eq_false, e, e6, j0, j2, j4, wr_L_mk, b_117_50, hX]
  have lp : ∀ m w (σ : qq_R) (v3 v4 : Option Value), w + m = 20 → Lq (t + 23) τ σ → (∀ v a, v ≤ w → a ≤ 60 → bL (tL σ (t + 23) v) a = rb bl v a) →
      ∃ τ', RR d 117 7 [some (.ref t), some (.ref s), some (.int (iN (w + 1))), v3, v4] [] (I, σ) = some (.inl none, (I, τ')) ∧ Lq (t + 23) τ τ' ∧ (∀ w a, w < 21 → a ≤ 60 → bL (tL τ' (t + 23) w) a = rb bl w a) := by
    intro m
    induction m with
    | zero =>
      intro w σ v3 v4 hw g1 g2
      refine ⟨σ, ?_, g1, fun v a hv ha => g2 v a (by omega) ha⟩
      rw [b_117_7]
      have e : 20 < w + 1 := by omega
      simp (disch := omega) only [rd_I_mk, rd_R_mk, rd_L_mk, rd_D_mk, kd_mk, wr_I_mk, cp_mk, gd_true, bd_ret, bd_thr, vl_none, vl_some, iN_add, iN_mul, iN_sub, iN_lt, iN_eq, iN_n, iN_m1, iN_pred, vp_iN, K0_le, nr_b0, nr_b1, m1_lt, lt_m1, iN_ne_m1, m1_ne_iN, not_lt_z, true_and, and_true, and_self, or_true, true_or, or_false, false_or, if_true, if_false, ↓reduceIte, eq_self, up_at, up_a, up_k, cp_c, cp_b, Nat.zero_add, Nat.add_zero, Nat.sub_zero, Nat.le_refl, Nat.add_sub_cancel, fu_at, fu_ne, iN_nz, n10_f, n01_f, ofN, qq_at_100, k110b, Nat.lt_irrefl, Nat.not_lt_zero, ne_eq, not_false_eq_true, not_true_eq_false, e]
    | succ m ih =>
      intro w σ v3 v4 hw g1 g2
      have e : ¬ 20 < w + 1 := by omega
      have j0 : tK σ t = (10, 0) := (Lq_K g1).trans k0
      have j2 : tR σ t 1 = t + 23 := (Lq_R g1).trans k2
      have j4 : tK σ (t + 23) = (105, 21) := (Lq_K g1).trans q4
      have js : tK σ s = (100, 21) := (Lq_K g1).trans hs
      have e6 : iN (w + 1) - iN 1 = iN w := iN_sub (by omega)
      have hz : ((iN (w + 1) = 0) : Prop) = False := by
        have : (iN (w + 1) = iN 0) = (w + 1 = 0) := iN_eq (by omega) (by omega)
        rw [show (0 : Int32) = iN 0 from rfl, this]
        exact eq_false (by omega)
      have hdv : 60 / (w + 1) ≤ 60 := Nat.div_le_self _ _
      have hbw := hb (w + 1) (by omega)
      obtain ⟨τ1, x4, s1, s2, s3⟩ := inner (min (bl (w + 1)) (60 / (w + 1))) w 0 (uL σ (t + 23) (w + 1) (tL σ (t + 23) w)) (by omega) (by omega) (Lq_up g1) (fun v a hv ha => by rw [uL_k (by omega)]; exact g2 v a hv ha) (fun a ha => by rw [uL_at, g2 w a (Nat.le_refl _) ha, rbk])
      obtain ⟨τ', u1, u2, u3⟩ := ih (w + 1) τ1 (some (.int (iN (min (bl (w + 1)) (60 / (w + 1)))))) (some (.int x4)) (by omega) s2 s3
      refine ⟨τ', ?_, u2, u3⟩
      rw [b_117_7]
      simp (disch := omega) only [rd_I_mk, rd_R_mk, rd_L_mk, rd_D_mk, kd_mk, wr_I_mk, cp_mk, gd_true, bd_ret, bd_thr, vl_none, vl_some, iN_add, iN_mul, iN_lt, iN_eq, iN_n, iN_m1, iN_pred, vp_iN, K0_le, nr_b0, nr_b1, m1_lt, lt_m1, iN_ne_m1, m1_ne_iN, not_lt_z, true_and, and_true, and_self, or_true, true_or, or_false, false_or, if_true, if_false, ↓reduceIte, eq_self, up_at, up_a, up_k, cp_c, cp_b, Nat.zero_add, Nat.add_zero, Nat.sub_zero, Nat.le_refl, Nat.add_sub_cancel, fu_at, fu_ne, iN_nz, n10_f, n01_f, ofN, qq_at_100, k110b, Nat.lt_irrefl, Nat.not_lt_zero, ne_eq, not_false_eq_true, not_true_eq_false, e, e6, hz, js, hS, j0, j2, j4, iN_div, iN_mn, wr_L_mk, b_117_28]
      rw [s1]; exact u1
  obtain ⟨τ', u1, u2, u3⟩ := lp 20 0 (uL τ (t + 23) 0 (Int64.ofNat 1)) none none (by omega) (Lq_up Lq_rf) (fun v a hv ha => by rw [show v = 0 by omega, uL_at, bL_one, rb_0])
  refine ⟨τ', ?_, u2, u3⟩
  rw [c_117]
  simp (disch := omega) only [rd_I_mk, rd_R_mk, rd_L_mk, rd_D_mk, kd_mk, wr_I_mk, cp_mk, gd_true, bd_ret, bd_thr, vl_none, vl_some, iN_add, iN_mul, iN_sub, iN_lt, iN_eq, iN_n, iN_m1, iN_pred, vp_iN, K0_le, nr_b0, nr_b1, m1_lt, lt_m1, iN_ne_m1, m1_ne_iN, not_lt_z, true_and, and_true, and_self, or_true, true_or, or_false, false_or, if_true, if_false, ↓reduceIte, eq_self, up_at, up_a, up_k, cp_c, cp_b, Nat.zero_add, Nat.add_zero, Nat.sub_zero, Nat.le_refl, Nat.add_sub_cancel, fu_at, fu_ne, iN_nz, n10_f, n01_f, ofN, qq_at_100, k110b, Nat.lt_irrefl, Nat.not_lt_zero, ne_eq, not_false_eq_true, not_true_eq_false, b_117_0, k0, k2, q4, wr_L_mk, b_117_5]
  exact u1
/-- the fewest blocks if they are below a limit -/
def fl (bl : Nat → Nat) (w a : Nat) (z : Int) : Nat := if (fw bl w a : Int) < z then fw bl w a else 1000
/-- the best of the takes from k on, below a limit -/
theorem c_search {r : Nat} (hr : tK τ r = (105, 21)) (hs : tK τ s = (100, 21)) (hS : ∀ w, w < 21 → I s w = iN (bl w)) (hb : ∀ w, w < 21 → bl w < 1000000) (hB : ∀ w a, w < 21 → a ≤ 60 → bL (tL τ r w) a = rb bl w a) :
    ∀ (w a : Nat) (z : Int), w ≤ 20 → a ≤ 60 → z ≤ 1000 → -100000 < z - (w : Int) * 1000 → CC (d + w + 1) 118 [.ref s, .ref r, .int (iN w), .int (iN a), .int (zI z)] (I, τ) = some (.inl (some (.int (iN (fl bl w a z)))), (I, τ)) := by
  intro w
  induction w with
  | zero =>
    intro a z _ ha hz1 hz2
    have hB0 := hB 0 a (by omega) ha
    have hbt : (lg_cmp (tL τ r 0 >>> ((iN a).toInt64 &&& 63) &&& Int64.ofNat 1) (Int64.ofNat 0) = iN 0) = (rb bl 0 a = false) := by rw [bL_test _ (by omega), hB0]
    have hz0 : (iN 0 < zI z) = (0 < z) := by rw [zI_iN, zI_lt (by omega) (by omega)]; rfl
    rw [c_118, b_118_0]
    by_cases h : rb bl 0 a = false
    · have h2 : fw bl 0 a = 1000 := by
        by_cases q : fw bl 0 a = 1000
        · exact q
        · rw [rb_iff.mpr q] at h; cases h
      have h3 : fl bl 0 a z = 1000 := by unfold fl; rw [h2, if_neg (by omega)]
      rw [h3]
      simp (disch := omega) only [rd_I_mk, rd_R_mk, rd_L_mk, rd_D_mk, kd_mk, wr_I_mk, cp_mk, gd_true, bd_ret, bd_thr, vl_none, vl_some, iN_add, iN_mul, iN_sub, iN_lt, iN_eq, iN_n, iN_m1, iN_pred, vp_iN, K0_le, nr_b0, nr_b1, m1_lt, lt_m1, iN_ne_m1, m1_ne_iN, not_lt_z, true_and, and_true, and_self, or_true, true_or, or_false, false_or, if_true, if_false, ↓reduceIte, eq_self, up_at, up_a, up_k, cp_c, cp_b, Nat.zero_add, Nat.add_zero, Nat.sub_zero, Nat.le_refl, Nat.add_sub_cancel, fu_at, fu_ne, iN_nz, n10_f, n01_f, ofN, qq_at_100, k110b, Nat.lt_irrefl, Nat.not_lt_zero, ne_eq, not_false_eq_true, not_true_eq_false, hr, hbt, h, b_118_15]
    · have h2 : fw bl 0 a ≠ 1000 := fun q => h (by unfold rb; rw [q]; rfl)
      have h3 : fw bl 0 a = 0 := by
        rw [fw] at h2 ⊢
        split at h2
        · rename_i q; rw [if_pos q]
        · exact absurd rfl h2
      have h4 : fl bl 0 a z = if 0 < z then 0 else 1000 := by unfold fl; rw [h3]; rfl
      rw [h4]
      by_cases hz : 0 < z
      · rw [if_pos hz]
        simp (disch := omega) only [rd_I_mk, rd_R_mk, rd_L_mk, rd_D_mk, kd_mk, wr_I_mk, cp_mk, gd_true, bd_ret, bd_thr, vl_none, vl_some, iN_add, iN_mul, iN_sub, iN_lt, iN_eq, iN_n, iN_m1, iN_pred, vp_iN, K0_le, nr_b0, nr_b1, m1_lt, lt_m1, iN_ne_m1, m1_ne_iN, not_lt_z, true_and, and_true, and_self, or_true, true_or, or_false, false_or, if_true, if_false, ↓reduceIte, eq_self, up_at, up_a, up_k, cp_c, cp_b, Nat.zero_add, Nat.add_zero, Nat.sub_zero, Nat.le_refl, Nat.add_sub_cancel, fu_at, fu_ne, iN_nz, n10_f, n01_f, ofN, qq_at_100, k110b, Nat.lt_irrefl, Nat.not_lt_zero, ne_eq, not_false_eq_true, not_true_eq_false, hr, hbt, h, b_118_21, hz0, hz, b_118_26, reduceCtorEq]
      · rw [if_neg hz]
        simp (disch := omega) only [rd_I_mk, rd_R_mk, rd_L_mk, rd_D_mk, kd_mk, wr_I_mk, cp_mk, gd_true, bd_ret, bd_thr, vl_none, vl_some, iN_add, iN_mul, iN_sub, iN_lt, iN_eq, iN_n, iN_m1, iN_pred, vp_iN, K0_le, nr_b0, nr_b1, m1_lt, lt_m1, iN_ne_m1, m1_ne_iN, not_lt_z, true_and, and_true, and_self, or_true, true_or, or_false, false_or, if_true, if_false, ↓reduceIte, eq_self, up_at, up_a, up_k, cp_c, cp_b, Nat.zero_add, Nat.add_zero, Nat.sub_zero, Nat.le_refl, Nat.add_sub_cancel, fu_at, fu_ne, iN_nz, n10_f, n01_f, ofN, qq_at_100, k110b, Nat.lt_irrefl, Nat.not_lt_zero, ne_eq, not_false_eq_true, not_true_eq_false, hr, hbt, h, b_118_21, hz0, hz, b_118_26, reduceCtorEq]
  | succ w ih =>
    intro a z hw ha hz1 hz2
    have hB0 := hB (w + 1) a (by omega) ha
    have hbt : (lg_cmp (tL τ r (w + 1) >>> ((iN a).toInt64 &&& 63) &&& Int64.ofNat 1) (Int64.ofNat 0) = iN 0) = (rb bl (w + 1) a = false) := by rw [bL_test _ (by omega), hB0]
    have hz0 : (iN 0 < zI z) = (0 < z) := by rw [zI_iN, zI_lt (by omega) (by omega)]; rfl
    have hzz : ((iN (w + 1) = 0) : Prop) = False := by
      have : (iN (w + 1) = iN 0) = (w + 1 = 0) := iN_eq (by omega) (by omega)
      rw [show (0 : Int32) = iN 0 from rfl, this]
      exact eq_false (by omega)
    have e20 : ¬ 20 < w + 1 := by omega
    have ew0 : ¬ w + 1 = 0 := by omega
    rw [c_118, b_118_0]
    by_cases h : rb bl (w + 1) a = false
    · have h2 : fw bl (w + 1) a = 1000 := by
        by_cases q : fw bl (w + 1) a = 1000
        · exact q
        · rw [rb_iff.mpr q] at h; cases h
      have h3 : fl bl (w + 1) a z = 1000 := by unfold fl; rw [h2, if_neg (by omega)]
      rw [h3]
      simp (disch := omega) only [rd_I_mk, rd_R_mk, rd_L_mk, rd_D_mk, kd_mk, wr_I_mk, cp_mk, gd_true, bd_ret, bd_thr, vl_none, vl_some, iN_add, iN_mul, iN_sub, iN_lt, iN_eq, iN_n, iN_m1, iN_pred, vp_iN, K0_le, nr_b0, nr_b1, m1_lt, lt_m1, iN_ne_m1, m1_ne_iN, not_lt_z, true_and, and_true, and_self, or_true, true_or, or_false, false_or, if_true, if_false, ↓reduceIte, eq_self, up_at, up_a, up_k, cp_c, cp_b, Nat.zero_add, Nat.add_zero, Nat.sub_zero, Nat.le_refl, Nat.add_sub_cancel, fu_at, fu_ne, iN_nz, n10_f, n01_f, ofN, qq_at_100, k110b, Nat.lt_irrefl, Nat.not_lt_zero, ne_eq, not_false_eq_true, not_true_eq_false, hr, e20, hbt, h, b_118_15]
    · have h2 : fw bl (w + 1) a ≠ 1000 := fun q => h (by unfold rb; rw [q]; rfl)
      have hbd := (@fw_bd bl (w + 1) a ha).resolve_left h2
      by_cases ha0 : a = 0
      · have h3 : fw bl (w + 1) a = 0 := by omega
        have h4 : fl bl (w + 1) a z = if 0 < z then 0 else 1000 := by unfold fl; rw [h3]; rfl
        rw [h4]
        subst ha0
        by_cases hz : 0 < z
        · rw [if_pos hz]
          simp (disch := omega) only [rd_I_mk, rd_R_mk, rd_L_mk, rd_D_mk, kd_mk, wr_I_mk, cp_mk, gd_true, bd_ret, bd_thr, vl_none, vl_some, iN_add, iN_mul, iN_sub, iN_lt, iN_eq, iN_n, iN_m1, iN_pred, vp_iN, K0_le, nr_b0, nr_b1, m1_lt, lt_m1, iN_ne_m1, m1_ne_iN, not_lt_z, true_and, and_true, and_self, or_true, true_or, or_false, false_or, if_true, if_false, ↓reduceIte, eq_self, up_at, up_a, up_k, cp_c, cp_b, Nat.zero_add, Nat.add_zero, Nat.sub_zero, Nat.le_refl, Nat.add_sub_cancel, fu_at, fu_ne, iN_nz, n10_f, n01_f, ofN, qq_at_100, k110b, Nat.lt_irrefl, Nat.not_lt_zero, ne_eq, not_false_eq_true, not_true_eq_false, hr, e20, hbt, h, ew0, b_118_21, hz0, hz, b_118_26, reduceCtorEq]
        · rw [if_neg hz]
          simp (disch := omega) only [rd_I_mk, rd_R_mk, rd_L_mk, rd_D_mk, kd_mk, wr_I_mk, cp_mk, gd_true, bd_ret, bd_thr, vl_none, vl_some, iN_add, iN_mul, iN_sub, iN_lt, iN_eq, iN_n, iN_m1, iN_pred, vp_iN, K0_le, nr_b0, nr_b1, m1_lt, lt_m1, iN_ne_m1, m1_ne_iN, not_lt_z, true_and, and_true, and_self, or_true, true_or, or_false, false_or, if_true, if_false, ↓reduceIte, eq_self, up_at, up_a, up_k, cp_c, cp_b, Nat.zero_add, Nat.add_zero, Nat.sub_zero, Nat.le_refl, Nat.add_sub_cancel, fu_at, fu_ne, iN_nz, n10_f, n01_f, ofN, qq_at_100, k110b, Nat.lt_irrefl, Nat.not_lt_zero, ne_eq, not_false_eq_true, not_true_eq_false, hr, e20, hbt, h, ew0, b_118_21, hz0, hz, b_118_26, reduceCtorEq]
      · have hdv : (a + w) / (w + 1) ≤ a + w := Nat.div_le_self _ _
        have hcl : (a + w) / (w + 1) ≤ fw bl (w + 1) a := by
          rw [Nat.div_le_iff_le_mul_add_pred (by omega), Nat.mul_comm]
          omega
        have e6 : iN (a + (w + 1)) - iN 1 = iN (a + w) := iN_sub (by omega)
        obtain ⟨q, hq⟩ : ∃ q, q = (a + w) / (w + 1) := ⟨_, rfl⟩
        rw [← hq] at hdv hcl
        have hlim : (iN q < zI z) = ((q : Int) < z) := by rw [zI_iN, zI_lt (by omega) (by omega)]
        by_cases hc : (q : Int) < z
        · have hmw : a / (w + 1) ≤ a := Nat.div_le_self _ _
          have hbw := hb (w + 1) (by omega)
          simp (disch := omega) only [rd_I_mk, rd_R_mk, rd_L_mk, rd_D_mk, kd_mk, wr_I_mk, cp_mk, gd_true, bd_ret, bd_thr, vl_none, vl_some, iN_add, iN_mul, iN_lt, iN_eq, iN_n, iN_m1, iN_pred, vp_iN, K0_le, nr_b0, nr_b1, m1_lt, lt_m1, iN_ne_m1, m1_ne_iN, not_lt_z, true_and, and_true, and_self, or_true, true_or, or_false, false_or, if_true, if_false, ↓reduceIte, eq_self, up_at, up_a, up_k, cp_c, cp_b, Nat.zero_add, Nat.add_zero, Nat.sub_zero, Nat.le_refl, Nat.add_sub_cancel, fu_at, fu_ne, iN_nz, n10_f, n01_f, ofN, qq_at_100, k110b, Nat.lt_irrefl, Nat.not_lt_zero, ne_eq, not_false_eq_true, not_true_eq_false, hr, e20, hbt, h, ew0, ha0, hzz, e6, iN_div, ← hq, hlim, hc, hs, hS, iN_mn, reduceCtorEq]
          generalize hK : min (bl (w + 1)) (a / (w + 1)) = K
          have hKa : K ≤ 60 := by omega
          have e7 : iN (w + 1) - iN 1 = iN w := iN_sub (by omega)
          -- the takes from k down
          have lp : ∀ k (b : Nat) (y : Int) (u8 : Option Value), k ≤ K + 1 → (b = 1000 ∧ y = z ∨ (b : Int) = y ∧ y < z ∧ 0 ≤ y) → (∀ j, k ≤ j → j ≤ K → ¬ ((fw bl w (a - j * (w + 1)) : Nat) : Int) < y - j) → (b = 1000 ∨ ∃ j, j ≤ K ∧ b = fw bl w (a - j * (w + 1)) + j) →
              RR (d + (w + 1) + 1) 118 50 [some (.ref s), some (.ref r), some (.int (iN (w + 1))), some (.int (iN a)), some (.int (zI z)), some (.int (iN b)), some (.int (zI y)), some (.int (zI ((k : Int) - 1))), u8] [] (I, τ) = some (.inl (some (.int (iN (fl bl (w + 1) a z)))), (I, τ)) := by
            intro k
            induction k with
            | zero =>
              intro b y u8 _ h1 h3 h4
              have en : (zI (((0 : Nat) : Int) - 1) < iN 0) = True := by rw [zI_iN, zI_lt (by omega) (by omega)]; exact eq_true (by omega)
              rw [b_118_50]
              simp only [en, if_true]
              have : b = fl bl (w + 1) a z := by
                unfold fl
                have hx := fmn_ex (g := fw bl w) (wt := w + 1) (a := a) K
                obtain ⟨j0, hj0, hj1⟩ := hx
                have hfe : fw bl (w + 1) a = fmn (fw bl w) (w + 1) a K := by rw [fw, hK]
                rw [hfe, hj1]
                have h30 := h3 j0 (Nat.zero_le _) hj0
                rcases h1 with ⟨q1, q2⟩ | ⟨q1, q2, q3⟩
                · rw [if_neg (by omega)]; exact q1
                · rcases h4 with q4 | ⟨j, q4, q5⟩
                  · omega
                  · have := fmn_le (g := fw bl w) (wt := w + 1) (a := a) K j q4
                    rw [if_pos (by omega)]
                    omega
              rw [this]
            | succ k ihk =>
              intro b y u8 hk h1 h3 h4
              have hkw := k_mul (K := bl (w + 1)) (a := a) (wt := w + 1) (k := k) (by omega)
              have hy : y ≤ z := by omega
              have en : (iN k < iN 0) = False := not_lt_z (by omega)
              have ek : zI (((k + 1 : Nat) : Int) - 1) = iN k := by rw [zI_iN]; congr 1; omega
              have e8 : iN a - iN (k * (w + 1)) = iN (a - k * (w + 1)) := iN_sub hkw
              have e9 : zI y - iN k = zI (y - k) := by rw [zI_iN, zI_sub]
              have hwm : ((w + 1 : Nat) : Int) * 1000 = (w : Int) * 1000 + 1000 := by rw [Int.natCast_add, Int.add_mul]; rfl
              have hrec := ih (a - k * (w + 1)) (y - k) (by omega) (by omega) (by omega) (by omega)
              have hrec2 : CC (d + (w + 1)) 118 [.ref s, .ref r, .int (iN w), .int (iN (a - k * (w + 1))), .int (zI (y - k))] (I, τ) = some (.inl (some (.int (iN (fl bl w (a - k * (w + 1)) (y - k))))), (I, τ)) := hrec
              have e10 : iN k + m1 = zI ((k : Int) - 1) := by
                rw [zI_iN]
                show Int32.ofInt (k : Int) + Int32.ofInt (-1) = Int32.ofInt ((k : Int) - 1)
                rw [← Int32.ofInt_add]; rfl
              have hfl := @fw_le bl w (a - k * (w + 1))
              rw [ek, b_118_50]
              by_cases hm : ((fw bl w (a - k * (w + 1)) : Nat) : Int) < y - k
              · have hv : fl bl w (a - k * (w + 1)) (y - k) = fw bl w (a - k * (w + 1)) := by unfold fl; rw [if_pos hm]
                have hv2 : ¬ fw bl w (a - k * (w + 1)) = 1000 := by omega
                rw [hv] at hrec2
                simp (disch := omega) only [en, if_false, e7, iN_mul, e8, e9, hrec2, bd_ret, vl_some, b_118_66, iN_eq, hv2, iN_add, b_118_76, e10]
                have eb : zI ((k + fw bl w (a - k * (w + 1)) : Nat) : Int) = iN (k + fw bl w (a - k * (w + 1))) := (zI_iN _).symm
                have h99 := ihk (k + fw bl w (a - k * (w + 1))) ((k + fw bl w (a - k * (w + 1)) : Nat) : Int) (some (.int (iN (fw bl w (a - k * (w + 1)))))) (by omega) (Or.inr ⟨rfl, by omega, by omega⟩) (fun j hj1 hj2 hj3 => by
                  by_cases ej : j = k
                  · rw [ej] at hj3; omega
                  · exact h3 j (by omega) hj2 (by omega)) (Or.inr ⟨k, by omega, Nat.add_comm _ _⟩)
                rw [eb] at h99
                exact h99
              · have hv : fl bl w (a - k * (w + 1)) (y - k) = 1000 := by unfold fl; rw [if_neg hm]
                rw [hv] at hrec2
                simp (disch := omega) only [en, if_false, e7, iN_mul, e8, e9, hrec2, bd_ret, vl_some, b_118_66, eq_self, if_true, b_118_76, e10]
                exact ihk b y _ (by omega) h1 (fun j hj1 hj2 hj3 => by
                  by_cases ej : j = k
                  · rw [ej] at hj3; exact hm hj3
                  · exact h3 j (by omega) hj2 hj3) h4
          have := lp (K + 1) 1000 z none (Nat.le_refl _) (Or.inl ⟨rfl, rfl⟩) (fun j h1 h2 => by omega) (Or.inl rfl)
          have ek : zI (((K + 1 : Nat) : Int) - 1) = iN K := by rw [zI_iN]; congr 1; omega
          rw [ek] at this
          exact this
        · have h3 : fl bl (w + 1) a z = 1000 := by unfold fl; rw [if_neg (by omega)]
          rw [h3]
          simp (disch := omega) only [rd_I_mk, rd_R_mk, rd_L_mk, rd_D_mk, kd_mk, wr_I_mk, cp_mk, gd_true, bd_ret, bd_thr, vl_none, vl_some, iN_add, iN_mul, iN_lt, iN_eq, iN_n, iN_m1, iN_pred, vp_iN, K0_le, nr_b0, nr_b1, m1_lt, lt_m1, iN_ne_m1, m1_ne_iN, not_lt_z, true_and, and_true, and_self, or_true, true_or, or_false, false_or, if_true, if_false, ↓reduceIte, eq_self, up_at, up_a, up_k, cp_c, cp_b, Nat.zero_add, Nat.add_zero, Nat.sub_zero, Nat.le_refl, Nat.add_sub_cancel, fu_at, fu_ne, iN_nz, n10_f, n01_f, ofN, qq_at_100, k110b, Nat.lt_irrefl, Nat.not_lt_zero, ne_eq, not_false_eq_true, not_true_eq_false, hr, e20, hbt, h, ew0, ha0, hzz, e6, iN_div, ← hq, hlim, hc, reduceCtorEq]
theorem c_fewestBySearch (hT : L_T τ t) (hs : tK τ s = (100, 21)) (hS : ∀ w, w < 21 → I s w = iN (bl w)) (hb : ∀ w, w < 21 → bl w < 1000000) {a : Nat} (ha : a ≤ 60) :
    ∃ τ', CC (d + 22) 116 [.ref t, .ref s, .int (iN a)] (I, τ) = some (.inl (some (.int (iN (fw bl 20 a)))), (I, τ')) ∧ Lq (t + 23) τ τ' := by
  obtain ⟨τ', h1, h2, h3⟩ := c_markReachable (d := d + 21) hT hs hS hb
  obtain ⟨ht, k0, k1, k2, q1, q2, q3, q4⟩ := hT
  have j0 : tK τ' t = (10, 0) := (Lq_K h2).trans k0
  have j2 : tR τ' t 1 = t + 23 := (Lq_R h2).trans k2
  have hse := c_search (d := d) (τ := τ') (r := t + 23) ((Lq_K h2).trans q4) ((Lq_K h2).trans hs) hS hb h3 20 a 1000 (Nat.le_refl _) ha (by omega) (by omega)
  have e1 : zI 1000 = iN 1000 := (zI_iN 1000).symm
  have e2 : fl bl 20 a 1000 = fw bl 20 a := by
    unfold fl
    have := @fw_le bl 20 a
    by_cases q : ((fw bl 20 a : Nat) : Int) < 1000
    · rw [if_pos q]
    · rw [if_neg q]; omega
  rw [e1, e2] at hse
  refine ⟨τ', ?_, h2⟩
  rw [c_116, b_116_0]
  simp (disch := omega) only [rd_I_mk, rd_R_mk, rd_L_mk, rd_D_mk, kd_mk, wr_I_mk, cp_mk, gd_true, bd_ret, bd_thr, vl_none, vl_some, iN_add, iN_mul, iN_sub, iN_lt, iN_eq, iN_n, iN_m1, iN_pred, vp_iN, K0_le, nr_b0, nr_b1, m1_lt, lt_m1, iN_ne_m1, m1_ne_iN, not_lt_z, true_and, and_true, and_self, or_true, true_or, or_false, false_or, if_true, if_false, ↓reduceIte, eq_self, up_at, up_a, up_k, cp_c, cp_b, Nat.zero_add, Nat.add_zero, Nat.sub_zero, Nat.le_refl, Nat.add_sub_cancel, fu_at, fu_ne, iN_nz, n10_f, n01_f, ofN, qq_at_100, k110b, Nat.lt_irrefl, Nat.not_lt_zero, ne_eq, not_false_eq_true, not_true_eq_false, k0, h1, b_116_3, j0, j2, hse, b_116_10]
end SR
