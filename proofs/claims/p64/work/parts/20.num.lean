/-! NUMBERS: naturals as ints, the state as ints and the rest -/
theorem iN_add (a b : Nat) : iN a + iN b = iN (a + b) := (Int32.ofNat_add a b).symm
theorem iN_mul (a b : Nat) : iN a * iN b = iN (a * b) := (Int32.ofNat_mul a b).symm
theorem iN_sub {a b : Nat} (h : b ≤ a) : iN a - iN b = iN (a - b) := (Int32.ofNat_sub a b h).symm
theorem iN_toInt {a : Nat} (h : a < 2147483648) : (iN a).toInt = a := Int32.toInt_ofNat_of_lt h
theorem iN_lt {a b : Nat} (ha : a < 2147483648) (hb : b < 2147483648) : (iN a < iN b) = (a < b) := propext (Int32.ofNat_lt_iff_lt ha hb)
theorem iN_eq {a b : Nat} (ha : a < 2147483648) (hb : b < 2147483648) : (iN a = iN b) = (a = b) := by
  refine propext ⟨fun h => ?_, fun h => by rw [h]⟩
  have h1 := iN_toInt ha
  rw [h, iN_toInt hb] at h1
  omega
theorem iN_n {a : Nat} (h : a < 2147483648) : (iN a).toNatClampNeg = a := Int32.toNatClampNeg_ofNat_of_lt h
theorem m1_toInt : m1.toInt = -1 := by decide
theorem iN_m1 (a : Nat) : iN (a + 1) + m1 = iN a := by
  rw [← iN_add]
  show Int32.ofNat a + Int32.ofNat 1 + Int32.ofInt (-1) = Int32.ofNat a
  rw [Int32.add_assoc, show Int32.ofNat 1 + Int32.ofInt (-1) = 0 by decide, Int32.add_zero]
theorem iN_pred {a : Nat} (h : 0 < a) : iN a + m1 = iN (a - 1) := by
  have := iN_m1 (a - 1)
  rw [show a - 1 + 1 = a by omega] at this
  exact this
theorem iN_neg (a : Nat) : ¬ iN a < 0 ∨ 2147483648 ≤ a := by
  rcases Nat.lt_or_ge a 2147483648 with h | h
  · left
    rw [Int32.lt_iff_toInt_lt, iN_toInt h, Int32.toInt_zero]
    omega
  · exact Or.inr h
theorem not_lt_z {a : Nat} (h : a < 2147483648) : (iN a < iN 0) = False := by
  rw [iN_lt h (by omega)]
  exact eq_false (Nat.not_lt_zero a)
theorem iN_nz {a : Nat} (h : a < 2147483648) : (iN a < 0) = False := eq_false ((iN_neg a).resolve_right (by omega))
theorem m1_lt {a : Nat} (h : a < 2147483648) : (m1 < iN a) = True := by
  refine eq_true ?_
  rw [Int32.lt_iff_toInt_lt, iN_toInt h, m1_toInt]
  omega
theorem lt_m1 {a : Nat} (h : a < 2147483648) : (iN a < m1) = False := by
  refine eq_false ?_
  rw [Int32.lt_iff_toInt_lt, iN_toInt h, m1_toInt]
  omega
theorem iN_ne_m1 {a : Nat} (h : a < 2147483648) : (iN a = m1) = False := by
  refine eq_false (fun e => ?_)
  have h1 := iN_toInt h
  rw [e, m1_toInt] at h1
  omega
theorem m1_ne_iN {a : Nat} (h : a < 2147483648) : (m1 = iN a) = False := by
  exact (propext eq_comm).trans (iN_ne_m1 h)
theorem m1_add (a : Nat) : m1 + iN (a + 1) = iN a := by rw [Int32.add_comm]; exact iN_m1 a
theorem iN_div {a b : Nat} (ha : a < 2147483648) (hb : b < 2147483648) : iN a / iN b = iN (a / b) := (Int32.ofNat_div ha hb).symm
theorem vp_iN {a n : Nat} (h : a < n) (hn : a < 2147483648) : vp_in (iN a) n = True := by
  refine eq_true ?_
  rintro (h1 | h1)
  · exact (iN_neg a).elim (fun z => z h1) (fun z => by omega)
  · rw [iN_n hn] at h1
    omega
theorem K0_le {a : Nat} (h : 70 ≤ a) : (qq_K0 ≤ a) = True := eq_true h
theorem nr_b0 : nr .boolean (iN 0) = True := eq_true (congrArg Value.int (by decide))
theorem nr_b1 : nr .boolean (iN 1) = True := eq_true (congrArg Value.int (by decide))
theorem nk_b0 : nk .boolean (iN 0) = True := eq_true ⟨congrArg Value.int (by decide), by decide⟩
theorem nk_b1 : nk .boolean (iN 1) = True := eq_true ⟨congrArg Value.int (by decide), by decide⟩
theorem ch_small {n : Nat} (h : n < 65536) : (iN n).toUInt32.toUInt16.toUInt32.toInt32 = iN n := by
  have h1 : (iN n).toInt = n := iN_toInt (by omega)
  exact lg_i2c_small (by omega) (by omega)
theorem nr_ch {n : Nat} (h : n < 65536) : nr .char (iN n) = True := eq_true (congrArg Value.int (ch_small h))
theorem nk_ch {n : Nat} (h : n < 65536) : nk .char (iN n) = True := by
  refine eq_true ⟨congrArg Value.int (ch_small h), ?_⟩
  have h1 : (iN n).toInt = n := iN_toInt (by omega)
  show ((0 : Int32) ≤ iN n && iN n ≤ 65535) = true
  rw [Bool.and_eq_true, decide_eq_true_eq, decide_eq_true_eq, Int32.le_iff_toInt_le, Int32.le_iff_toInt_le, h1, Int32.toInt_zero, show (65535 : Int32).toInt = 65535 by decide]
  omega
theorem vn_b0 : vp_nar .boolean (iN 0) = iN 0 := by decide
theorem vn_b1 : vp_nar .boolean (iN 1) = iN 1 := by decide
/-- the state but its ints -/
abbrev qq_R : Type := (Nat → Nat → Nat) × (Nat → Nat → Int64) × (Nat → Nat → UInt64) × (Nat → Nat × Nat) × Nat × Nat
abbrev qq_I : Type := Nat → Nat → Int32
def tR (τ : qq_R) (a k : Nat) : Nat := τ.1 a k
def tL (τ : qq_R) (a k : Nat) : Int64 := τ.2.1 a k
def tD (τ : qq_R) (a k : Nat) : UInt64 := τ.2.2.1 a k
def tK (τ : qq_R) (a : Nat) : Nat × Nat := τ.2.2.2.1 a
def tZ (τ : qq_R) : Nat := τ.2.2.2.2.1
def tU (τ : qq_R) : Nat := τ.2.2.2.2.2
def cp_2 (I : qq_I) (a sp b dp n : Nat) : qq_I := fun c j => if c = b ∧ dp ≤ j ∧ j < dp + n then I a (sp + (j - dp)) else I c j
section NU
variable {I : qq_I} {τ : qq_R}
theorem rd_I_mk {a k : Nat} : rd_I (I, τ) a k = I a k := rfl
theorem rd_R_mk {a k : Nat} : rd_R (I, τ) a k = tR τ a k := rfl
theorem rd_L_mk {a k : Nat} : rd_L (I, τ) a k = tL τ a k := rfl
theorem rd_D_mk {a k : Nat} : rd_D (I, τ) a k = tD τ a k := rfl
theorem kd_mk {a : Nat} : kd_S (I, τ) a = tK τ a := rfl
theorem sz_mk : sz_S (I, τ) = tZ τ := rfl
theorem su_mk : su_S (I, τ) = tU τ := rfl
theorem wr_I_mk {a k : Nat} {v : Int32} : wr_I (I, τ) a k v = (up_2 I a k v, τ) := rfl
theorem cp_mk {a sp b dp n : Nat} : cp_S (I, τ) a sp b dp n = (cp_2 I a sp b dp n, τ) := rfl
theorem up_at {a k : Nat} {v : Int32} : up_2 I a k v a k = v := if_pos ⟨rfl, rfl⟩
theorem up_a {a b k j : Nat} {v : Int32} (h : b ≠ a) : up_2 I a k v b j = I b j := if_neg (fun q => h q.1)
theorem up_k {a k j : Nat} {v : Int32} (h : j ≠ k) : up_2 I a k v a j = I a j := if_neg (fun q => h q.2)
theorem up_c {a b : Nat} {k : Nat} {v : Int32} (h : b ≠ a) : up_2 I a k v b = I b := funext (fun j => if_neg (fun q => h q.1))
theorem cp_c {a sp b dp n c : Nat} (h : c ≠ b) : cp_2 I a sp b dp n c = I c := funext (fun j => if_neg (fun q => h q.1))
theorem cp_b {a sp b dp n j : Nat} (h : dp ≤ j ∧ j < dp + n) : cp_2 I a sp b dp n b j = I a (sp + (j - dp)) := if_pos ⟨rfl, h⟩
theorem cp_o {a sp b dp n j : Nat} (h : ¬ (dp ≤ j ∧ j < dp + n)) : cp_2 I a sp b dp n b j = I b j := if_neg (fun q => h q.2)
end NU
/-- ints are the same outside of a region -/
def Fr (lo n : Nat) (I I' : qq_I) : Prop := ∀ a, (a < lo ∨ lo + n ≤ a) → I' a = I a
theorem Fr_rf {lo n : Nat} {I : qq_I} : Fr lo n I I := fun _ _ => rfl
theorem Fr_tr {lo n : Nat} {I I' I'' : qq_I} (h : Fr lo n I I') (h2 : Fr lo n I' I'') : Fr lo n I I'' := fun a ha => (h2 a ha).trans (h a ha)
theorem Fr_wd {lo n lo' n' : Nat} {I I' : qq_I} (h : Fr lo n I I') (h1 : lo' ≤ lo) (h2 : lo + n ≤ lo' + n') : Fr lo' n' I I' := fun a ha => h a (by omega)
theorem Fr_up {lo n a k : Nat} {v : Int32} {I : qq_I} (h : lo ≤ a ∧ a < lo + n) : Fr lo n I (up_2 I a k v) := fun b hb => up_c (by omega)
theorem Fr_cp {lo n a sp b dp m : Nat} {I : qq_I} (h : lo ≤ b ∧ b < lo + n) : Fr lo n I (cp_2 I a sp b dp m) := fun c hc => cp_c (by omega)
theorem iN_ex {x : Int32} {n : Nat} (h0 : ¬ x < iN 0) (h1 : x < iN n) (hn : n < 2147483648) : ∃ k, k < n ∧ x = iN k := by
  rw [Int32.lt_iff_toInt_lt, iN_toInt (by omega)] at h0
  rw [Int32.lt_iff_toInt_lt, iN_toInt hn] at h1
  refine ⟨x.toNatClampNeg, ?_, ?_⟩
  · have := Int32.toInt_eq_toNatClampNeg (a := x) (by rw [Int32.le_iff_toInt_le, Int32.toInt_zero]; omega)
    omega
  · exact (Int32.ofNat_toNatClampNeg x (by rw [Int32.le_iff_toInt_le, Int32.toInt_zero]; omega)).symm
/-- an arbitrary int: small and not negative, or not -/
theorem iN_or (x : Int32) (n : Nat) (hn : n < 2147483648) : (∃ k, k < n ∧ x = iN k) ∨ (∀ k, k < n → x ≠ iN k) := by
  by_cases h : ∃ k, k < n ∧ x = iN k
  · exact Or.inl h
  · exact Or.inr (fun k hk e => h ⟨k, hk, e⟩)
theorem iN_in {x : Int32} {n : Nat} (hn : n < 2147483648) : (¬ x < iN 0 ∧ x < iN n) ↔ ∃ k, k < n ∧ x = iN k := by
  constructor
  · rintro ⟨h1, h2⟩
    exact iN_ex h1 h2 hn
  · rintro ⟨k, h1, rfl⟩
    rw [iN_lt (by omega) (by omega), iN_lt (by omega) hn]
    omega
theorem iN_and (a b : Nat) : iN a &&& iN b = iN (a &&& b) := by
  apply Int32.toBitVec_inj.1
  show BitVec.ofNat 32 a &&& BitVec.ofNat 32 b = BitVec.ofNat 32 (a &&& b)
  apply BitVec.eq_of_getLsbD_eq
  intro i hi
  simp [hi]
theorem iN_or9 (a b : Nat) : iN a ||| iN b = iN (a ||| b) := by
  apply Int32.toBitVec_inj.1
  show BitVec.ofNat 32 a ||| BitVec.ofNat 32 b = BitVec.ofNat 32 (a ||| b)
  apply BitVec.eq_of_getLsbD_eq
  intro i hi
  simp [hi]
theorem iN_and1 (a : Nat) : iN a &&& iN 1 = iN (a % 2) := by rw [iN_and, Nat.and_one_is_mod]
theorem iN_cnt : ∀ n, n < 32 → ((iN n &&& 31).toBitVec.smod 32).toNat = n := by decide +kernel
theorem iN_shr {a k : Nat} (h : a < 2147483648) (hk : k < 32) : iN a >>> (iN k &&& 31) = iN (a / 2 ^ k) := by
  have hd : a / 2 ^ k ≤ a := Nat.div_le_self _ _
  apply Int32.toInt_inj.mp
  have e : (iN a >>> (iN k &&& 31)).toInt = (iN a).toInt >>> k := by
    conv => rhs; rw [← iN_cnt k hk]
    exact BitVec.toInt_sshiftRight ..
  rw [e, Int.shiftRight_eq_div_pow, iN_toInt h, iN_toInt (by omega)]
  rfl
theorem iN_shl {a k : Nat} (hk : k < 32) : iN a <<< (iN k &&& 31) = iN (a * 2 ^ k) := by
  apply Int32.toBitVec_inj.1
  rw [Int32.toBitVec_shiftLeft]
  show BitVec.ofNat 32 a <<< ((iN k &&& 31).toBitVec.smod 32).toNat = BitVec.ofNat 32 (a * 2 ^ k)
  rw [iN_cnt k hk]
  apply BitVec.eq_of_toNat_eq
  rw [BitVec.toNat_shiftLeft, BitVec.toNat_ofNat, BitVec.toNat_ofNat, Nat.shiftLeft_eq, Nat.mod_mul_mod]
theorem n10_f : ((1 : Nat) = 0) = False := eq_false (by omega)
theorem n01_f : ((0 : Nat) = 1) = False := eq_false (by omega)
theorem ofN (n : Nat) : Int32.ofNat n = iN n := rfl
theorem qq_at_100 : (qq_at 100 = true) = True := eq_true rfl
theorem k110b : ((110 : Nat) < 113) = True := eq_true (by omega)
