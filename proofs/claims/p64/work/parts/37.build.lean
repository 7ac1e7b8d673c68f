/-! STRING BUILDERS: new cells, changed references, room for more -/
def nwI (τ : qq_R) (I : qq_I) : qq_I := ze_2 I (tZ τ) 1 0
def nT (τ : qq_R) (kd : Nat × Nat) (s : Nat) : qq_R := (ze_2 τ.1 (tZ τ) 1 0, ze_2 τ.2.1 (tZ τ) 1 0, ze_2 τ.2.2.1 (tZ τ) 1 0, (fun b => if tZ τ ≤ b ∧ b < tZ τ + 1 then kd else tK τ b), tZ τ + 1, tU τ + s)
def uR (τ : qq_R) (a k : Nat) (v : Nat) : qq_R := (up_2 τ.1 a k v, τ.2)
section NW
variable {I I' I'' : qq_I} {τ τ' τ'' : qq_R} {a b k j s : Nat} {kd : Nat × Nat}
theorem nw_mk : nw_S (I, τ) 1 kd s = (nwI τ I, nT τ kd s) := rfl
theorem wr_R_mk {v : Nat} : wr_R (I, τ) a k v = (I, uR τ a k v) := rfl
theorem ze_o {α : Type} {f : Nat → Nat → α} {z : Nat} {v : α} (h : a ≠ z) : ze_2 f z 1 v a = f a := funext (fun j => if_neg (fun q => h (by omega)))
theorem nI_o (h : a ≠ tZ τ) : nwI τ I a = I a := ze_o h
theorem nI_at : nwI τ I (tZ τ) k = iN 0 := if_pos ⟨Nat.le_refl _, Nat.lt_succ_self _⟩
theorem nT_K : tK (nT τ kd s) (tZ τ) = kd := if_pos ⟨Nat.le_refl _, Nat.lt_succ_self _⟩
theorem nT_Ko (h : a ≠ tZ τ) : tK (nT τ kd s) a = tK τ a := if_neg (fun q => h (by omega))
theorem nT_Ro (h : a ≠ tZ τ) : tR (nT τ kd s) a k = tR τ a k := congrFun (ze_o (f := τ.1) h) k
theorem nT_Z : tZ (nT τ kd s) = tZ τ + 1 := rfl
theorem nT_U : tU (nT τ kd s) = tU τ + s := rfl
theorem uR_at {v : Nat} : tR (uR τ a k v) a k = v := if_pos ⟨rfl, rfl⟩
theorem uR_a {v : Nat} (h : b ≠ a) : tR (uR τ a k v) b j = tR τ b j := if_neg (fun q => h q.1)
theorem uR_k {v : Nat} (h : j ≠ k) : tR (uR τ a k v) a j = tR τ a j := if_neg (fun q => h q.2)
theorem uR_K {v : Nat} : tK (uR τ a k v) b = tK τ b := rfl
theorem uR_Z {v : Nat} : tZ (uR τ a k v) = tZ τ := rfl
theorem uR_U {v : Nat} : tU (uR τ a k v) = tU τ := rfl
/-- what is the same: kinds of all that was there, all of it but A -/
def Gf (A : Nat → Prop) (I : qq_I) (τ : qq_R) (I' : qq_I) (τ' : qq_R) : Prop := tZ τ ≤ tZ τ' ∧ ∀ a, a < tZ τ → tK τ' a = tK τ a ∧ (¬ A a → I' a = I a ∧ τ'.1 a = τ.1 a ∧ τ'.2.1 a = τ.2.1 a ∧ τ'.2.2.1 a = τ.2.2.1 a)
theorem Gf_rf {A : Nat → Prop} : Gf A I τ I τ := ⟨Nat.le_refl _, fun _ _ => ⟨rfl, fun _ => ⟨rfl, rfl, rfl, rfl⟩⟩⟩
theorem Gf_tr {A B C : Nat → Prop} (h1 : Gf A I τ I' τ') (h2 : Gf B I' τ' I'' τ'') (hA : ∀ a, a < tZ τ → A a → C a) (hB : ∀ a, a < tZ τ → B a → C a) : Gf C I τ I'' τ'' := by
  refine ⟨Nat.le_trans h1.1 h2.1, fun a ha => ?_⟩
  obtain ⟨p1, p2⟩ := h1.2 a ha
  obtain ⟨q1, q2⟩ := h2.2 a (Nat.lt_of_lt_of_le ha h1.1)
  refine ⟨q1.trans p1, fun hn => ?_⟩
  obtain ⟨x1, x2, x3, x4⟩ := p2 (fun z => hn (hA a ha z))
  obtain ⟨y1, y2, y3, y4⟩ := q2 (fun z => hn (hB a ha z))
  exact ⟨y1.trans x1, y2.trans x2, y3.trans x3, y4.trans x4⟩
theorem Gf_wd {A B : Nat → Prop} (h : Gf A I τ I' τ') (hA : ∀ a, a < tZ τ → A a → B a) : Gf B I τ I' τ' := Gf_tr h (Gf_rf (A := A)) hA hA
theorem Gf_I {A : Nat → Prop} (h : ∀ a, ¬ A a → I' a = I a) : Gf A I τ I' τ := ⟨Nat.le_refl _, fun a _ => ⟨rfl, fun hn => ⟨h a hn, rfl, rfl, rfl⟩⟩⟩
theorem Gf_up {A : Nat → Prop} {v : Int32} (h : A a) : Gf A I τ (up_2 I a k v) τ := Gf_I (fun b hb => up_c (fun e => hb (by rw [e]; exact h)))
theorem Gf_uR {A : Nat → Prop} {v : Nat} (h : A a) : Gf A I τ I (uR τ a k v) := ⟨Nat.le_refl _, fun b _ => ⟨rfl, fun hn => ⟨rfl, funext (fun j => if_neg (fun q => hn (by rw [q.1]; exact h))), rfl, rfl⟩⟩⟩
theorem Gf_nw {A : Nat → Prop} : Gf A I τ (nwI τ I) (nT τ kd s) := ⟨Nat.le_succ _, fun a ha => ⟨nT_Ko (by omega), fun _ => ⟨nI_o (by omega), ze_o (by omega), ze_o (by omega), ze_o (by omega)⟩⟩⟩
theorem Gf_Fr {A : Nat → Prop} {lo n : Nat} (h : Fr lo n I I') (hA : ∀ a, lo ≤ a → a < lo + n → A a) : Gf A I τ I' τ := Gf_I (fun a ha => h a (by
  rcases Nat.lt_or_ge a lo with q | q
  · exact Or.inl q
  · rcases Nat.lt_or_ge a (lo + n) with r | r
    · exact absurd (hA a q r) ha
    · exact Or.inr r))
theorem Gf_R {A : Nat → Prop} (h : Gf A I τ I' τ') (ha : a < tZ τ) (hn : ¬ A a) : tR τ' a k = tR τ a k := congrFun ((h.2 a ha).2 hn).2.1 k
theorem Gf_II {A : Nat → Prop} (h : Gf A I τ I' τ') (ha : a < tZ τ) (hn : ¬ A a) : I' a = I a := ((h.2 a ha).2 hn).1
theorem Gf_K {A : Nat → Prop} (h : Gf A I τ I' τ') (ha : a < tZ τ) : tK τ' a = tK τ a := (h.2 a ha).1
end NW
theorem shr_z (x : Int32) : x >>> (iN 0 &&& 31) = x := by
  show x >>> (iN 0 &&& 31) = x
  rw [show (iN 0 &&& 31 : Int32) = 0 by decide, Int32.shiftRight_zero]
theorem shl_z (x : Int32) : x <<< (iN 0 &&& 31) = x := by
  rw [show (iN 0 &&& 31 : Int32) = 0 by decide, Int32.shiftLeft_zero]
theorem iN_ls {a b : Nat} (ha : a < 1000000000) (hb : b < 1000000000) : (iN 0 < iN a - iN b) = (b < a) := by
  rw [iN_oi a, iN_oi b, ← Int32.ofInt_sub, Int32.lt_iff_toInt_lt, Int32.toInt_ofInt_of_le (by omega) (by omega), iN_toInt (by omega)]
  exact propext ⟨fun h => by omega, fun h => by omega⟩
/-- a byte that is a sign -/
def isB (x : Int32) : Prop := ∃ b, b < 128 ∧ x = iN b
theorem fit_b {x : Int32} (h : isB x) : fits .byte (.int x) = true := by
  obtain ⟨b, hb, rfl⟩ := h
  have : ∀ b, b < 128 → fits .byte (.int (iN b)) = true := by decide +kernel
  exact this b hb
theorem by_b : ∀ b, b < 128 → vp_nar .byte ((iN b).toInt8.toInt32) = iN b := by decide +kernel
theorem by_c : ∀ b, b < 128 → vp_nar .byte (iN b) = iN b := by decide +kernel
theorem ch_b : ∀ b, b < 128 → (((iN b) &&& (iN 255)).toUInt32 % 65536).toInt32 = iN b := by decide +kernel
/-- the builder at s holds l; Z is where what may grow begins -/
def R_B (I : qq_I) (τ : qq_R) (s Z : Nat) (l : List Nat) : Prop := 70 ≤ s ∧ s < Z ∧ Z ≤ tZ τ ∧ tK τ s = (2, 0) ∧ I s 1 = iN 0 ∧ I s 3 = iN l.length ∧
  ∃ v n, tR τ s 0 = v ∧ tK τ v = (102, n) ∧ l.length ≤ n ∧ 16 ≤ n ∧ n ≤ 122 ∧ (v = s + 1 ∨ Z ≤ v) ∧ v < tZ τ ∧ (∀ i, i < n → isB (I v i)) ∧ (∀ i (h : i < l.length), I v i = iN l[i])
theorem qq_at_102 : (qq_at 102 = true) = True := eq_true rfl
theorem n102_101 : ((102 : Nat) = 101) = False := eq_false (by omega)
theorem n102_100 : ((102 : Nat) = 100) = False := eq_false (by omega)
section SB
variable {d : Nat} {I : qq_I} {τ : qq_R} {s Z : Nat} {l : List Nat}
theorem c_isLatin (h1 : tK τ s = (2, 0)) (h2 : I s 1 = iN 0) : CC d 4 [.ref s] (I, τ) = some (.inl (some (.int (iN 1))), (I, τ)) := by
  rw [c_4, b_4_0]
  simp (disch := omega) only [rd_I_mk, rd_R_mk, rd_L_mk, rd_D_mk, kd_mk, wr_I_mk, cp_mk, gd_true, bd_ret, bd_thr, vl_none, vl_some, iN_add, iN_mul, iN_sub, iN_lt, iN_eq, iN_n, iN_m1, iN_pred, vp_iN, K0_le, nr_b0, nr_b1, m1_lt, lt_m1, iN_ne_m1, m1_ne_iN, not_lt_z, true_and, and_true, and_self, or_true, true_or, or_false, false_or, if_true, if_false, ↓reduceIte, eq_self, up_at, up_a, up_k, cp_c, cp_b, Nat.zero_add, Nat.add_zero, Nat.sub_zero, Nat.le_refl, Nat.add_sub_cancel, fu_at, fu_ne, iN_nz, n10_f, n01_f, ofN, qq_at_100, k110b, Nat.lt_irrefl, Nat.not_lt_zero, ne_eq, not_false_eq_true, not_true_eq_false, h1, h2, b_4_8]
theorem c_newCap {n k : Nat} (hk : n < k) (hk2 : k ≤ 1000) : CC (d + 1) 6 [.ref s, .int (iN k)] (I, τ) = some (.inl (some (.int (iN (n + max (k - n) (n + 2))))), (I, τ)) ∨ ¬ (tK τ s = (2, 0) ∧ I s 1 = iN 0 ∧ tK τ (tR τ s 0) = (102, n)) := by
  by_cases q : tK τ s = (2, 0) ∧ I s 1 = iN 0 ∧ tK τ (tR τ s 0) = (102, n)
  · left
    obtain ⟨h1, h2, h3⟩ := q
    have e1 : (if iN (k - n) < iN (n + 2) then iN (n + 2) else iN (k - n)) = iN (max (k - n) (n + 2)) := by
      have e0 : (iN (k - n) < iN (n + 2)) = (k - n < n + 2) := iN_lt (by omega) (by omega)
      by_cases q : k - n < n + 2
      · rw [if_pos (e0.mpr q), Nat.max_eq_right (by omega)]
      · rw [if_neg (fun z => q (e0.mp z)), Nat.max_eq_left (by omega)]
    have hmx : max (k - n) (n + 2) ≤ 2000 := by omega
    have hmp : 0 < n + max (k - n) (n + 2) := by omega
    have hmz : n + max (k - n) (n + 2) < 5000 := by omega
    generalize max (k - n) (n + 2) = mx at *
    have f7 : CC d 7 [.int (iN n), .int (iN (k - n)), .int (iN (n + 2))] (I, τ) = some (.inl (some (.int (iN (n + mx)))), (I, τ)) := by
      have a1 : (iN 0 < iN (n + mx)) = True := (iN_lt (by omega) (by omega)).trans (eq_true hmp)
      have a2 : (iN 2147483639 < iN (n + mx)) = False := (iN_lt (by omega) (by omega)).trans (eq_false (by omega))
      rw [c_7, b_7_0, e1, iN_add]
      simp only [a1, a2, if_true, if_false]
    have e2 : (iN (n + mx) = iN 2147483647) = False := (iN_eq (by omega) (by omega)).trans (eq_false (by omega))
    rw [c_6, b_6_0]
    simp (disch := omega) only [rd_I_mk, rd_R_mk, rd_L_mk, rd_D_mk, kd_mk, wr_I_mk, cp_mk, gd_true, bd_ret, bd_thr, vl_none, vl_some, iN_add, iN_mul, iN_sub, iN_lt, iN_eq, iN_n, iN_m1, iN_pred, vp_iN, K0_le, nr_b0, nr_b1, m1_lt, lt_m1, iN_ne_m1, m1_ne_iN, not_lt_z, true_and, and_true, and_self, or_true, true_or, or_false, false_or, if_true, if_false, ↓reduceIte, eq_self, up_at, up_a, up_k, cp_c, cp_b, Nat.zero_add, Nat.add_zero, Nat.sub_zero, Nat.le_refl, Nat.add_sub_cancel, fu_at, fu_ne, iN_nz, n10_f, n01_f, ofN, qq_at_100, k110b, Nat.lt_irrefl, Nat.not_lt_zero, ne_eq, not_false_eq_true, not_true_eq_false, h1, h2, h3, qq_at_102, shl_z, shr_z, f7, b_6_22, e2]
  · exact Or.inr q
theorem c_ensure (hR : R_B I τ s Z l) {k : Nat} (hk : k ≤ 61) :
    ∃ I' τ', CC (d + 2) 5 [.ref s, .int (iN k)] (I, τ) = some (.inl none, (I', τ')) ∧ R_B I' τ' s Z l ∧ k ≤ (tK τ' (tR τ' s 0)).2 ∧ Gf (fun a => a = s) I τ I' τ' ∧ I' s = I s ∧ tZ τ' ≤ tZ τ + 1 ∧ tU τ' ≤ tU τ + 122 ∧ (tR τ' s 0 = tR τ s 0 ∨ tR τ' s 0 = tZ τ) := by
  have hR0 := hR
  obtain ⟨s70, sZ, hZ, h1, h2, h3, v, n, h4, h5, h6, h7, h8, h9, hv, hi, hl⟩ := hR
  have hv70 : 70 ≤ v := by omega
  have hsv : s ≠ v := by omega
  by_cases q : n < k
  · have e0 : (iN 0 < iN k - iN n) = True := (iN_ls (by omega) (by omega)).trans (eq_true q)
    have f6 := (c_newCap (d := d) (I := I) (τ := τ) (s := s) (n := n) (k := k) q (by omega)).resolve_right (fun z => z ⟨h1, h2, by rw [h4]; exact h5⟩)
    have hm1 : n < n + max (k - n) (n + 2) := by omega
    have hm2 : n + max (k - n) (n + 2) ≤ 122 := by omega
    have hm3 : k ≤ n + max (k - n) (n + 2) := by omega
    generalize n + max (k - n) (n + 2) = N at *
    have f10 : CC (d + 1) 10 [.ref v, .int (iN N)] (I, τ) = some (.inl (some (.ref (tZ τ))), (cp_2 (nwI τ I) v 0 (tZ τ) 0 n, nT τ (102, N) N)) := by
      have e1 : (if iN N < Int32.ofNat n then iN N else Int32.ofNat n) = iN n := by
        have : (iN N < Int32.ofNat n) = False := (iN_lt (by omega) (by omega)).trans (eq_false (by omega))
        exact if_neg (fun z => by rw [this] at z; exact z)
      have a1 : (iN N = Int32.ofNat n) = False := (iN_eq (by omega) (by omega)).trans (eq_false (by omega))
      have a2 : (iN N < 0) = False := iN_nz (by omega)
      have a3 : (iN N).toNatClampNeg = N := iN_n (by omega)
      have a4 : tK (nT τ (102, N) N) v = (102, n) := (nT_Ko (by omega)).trans h5
      have a5 : (iN n).toNatClampNeg = n := iN_n (by omega)
      have a6 : (iN 0).toNatClampNeg = 0 := iN_n (by omega)
      rw [c_10, b_10_0, gd_t (by rw [kd_mk, h5]; rfl)]
      simp only [kd_mk, h5, a1, if_false]
      rw [gd_t ⟨by rw [a2]; exact not_false, by rw [a3]; omega⟩, a3, nw_mk, sz_mk, b_10_10]
      simp only [kd_mk, a4, nT_K, rd_I_mk, e1, a5, a6]
      rw [gd_t ⟨rfl, ⟨trivial, Or.inr ⟨trivial, fun i hi' => by rw [Nat.zero_add, nI_o (by omega)]; exact fit_b (hi i hi')⟩⟩, by omega, by show 70 ≤ tZ τ; omega, ⟨by rw [not_congr (iff_of_eq (iN_nz (a := 0) (by omega)))]; exact not_false, by rw [not_congr (iff_of_eq (iN_nz (a := 0) (by omega)))]; exact not_false, by rw [not_congr (iff_of_eq (iN_nz (a := n) (by omega)))]; exact not_false⟩, by omega, by omega⟩, cp_mk, b_10_20]
    have g1 : tK (nT τ (102, N) N) s = (2, 0) := (nT_Ko (by omega)).trans h1
    have g2 : cp_2 (nwI τ I) v 0 (tZ τ) 0 n s = I s := by rw [cp_c (by omega), nI_o (by omega)]
    refine ⟨cp_2 (nwI τ I) v 0 (tZ τ) 0 n, uR (nT τ (102, N) N) s 0 (tZ τ), ?_, ⟨s70, sZ, by rw [uR_Z, nT_Z]; omega, by rw [uR_K]; exact g1, by rw [g2]; exact h2, by rw [g2]; exact h3, tZ τ, N, uR_at, by rw [uR_K]; exact nT_K, by omega, by omega, hm2, Or.inr hZ, by rw [uR_Z, nT_Z]; omega, fun i hi' => ?_, fun i hi' => ?_⟩, ?_, ?_, g2, by rw [uR_Z, nT_Z]; omega, by rw [uR_U, nT_U]; omega, Or.inr uR_at⟩
    · have g3 : cp_2 (nwI τ I) v 0 (tZ τ) 0 n s 1 = iN 0 := by rw [g2]; exact h2
      rw [c_5, b_5_0]
      simp (disch := omega) only [rd_I_mk, rd_R_mk, rd_L_mk, rd_D_mk, kd_mk, wr_I_mk, cp_mk, gd_true, bd_ret, bd_thr, vl_none, vl_some, iN_add, iN_mul, iN_lt, iN_eq, iN_n, iN_m1, iN_pred, vp_iN, K0_le, nr_b0, nr_b1, m1_lt, lt_m1, iN_ne_m1, m1_ne_iN, not_lt_z, true_and, and_true, and_self, or_true, true_or, or_false, false_or, if_true, if_false, ↓reduceIte, eq_self, up_at, up_a, up_k, cp_c, cp_b, Nat.zero_add, Nat.add_zero, Nat.sub_zero, Nat.le_refl, Nat.add_sub_cancel, fu_at, fu_ne, iN_nz, n10_f, n01_f, ofN, qq_at_100, k110b, Nat.lt_irrefl, Nat.not_lt_zero, ne_eq, not_false_eq_true, not_true_eq_false, h1, h2, h4, h5, qq_at_102, shr_z, shl_z, e0, f6, b_5_17, f10, b_5_21, g1, wr_R_mk, b_5_22]
    · by_cases e : i < n
      · rw [cp_b (by omega), nI_o (by omega)]
        obtain ⟨b, hb, hx⟩ := hi i e
        exact ⟨b, hb, by rw [Nat.sub_zero, Nat.zero_add]; exact hx⟩
      · rw [cp_o (by omega), nI_at]
        exact ⟨0, by omega, rfl⟩
    · rw [cp_b (by omega), nI_o (by omega), Nat.sub_zero, Nat.zero_add]
      exact hl i hi'
    · rw [uR_at, uR_K, nT_K]; exact hm3
    · exact Gf_tr (Gf_tr (A := fun _ => False) (B := fun a => a = tZ τ) (C := fun a => a = s) Gf_nw (Gf_I (fun a ha => cp_c ha)) (fun _ _ z => z.elim) (fun a ha z => by omega)) (Gf_uR (A := fun a => a = s) rfl) (fun _ _ z => z) (fun _ _ z => z)
  · have e0 : (iN 0 < iN k - iN n) = False := (iN_ls (by omega) (by omega)).trans (eq_false q)
    refine ⟨I, τ, ?_, hR0, by rw [h4, h5]; show k ≤ n; omega, Gf_rf, rfl, by omega, by omega, Or.inl rfl⟩
    rw [c_5, b_5_0]
    simp (disch := omega) only [rd_I_mk, rd_R_mk, rd_L_mk, rd_D_mk, kd_mk, wr_I_mk, cp_mk, gd_true, bd_ret, bd_thr, vl_none, vl_some, iN_add, iN_mul, iN_lt, iN_eq, iN_n, iN_m1, iN_pred, vp_iN, K0_le, nr_b0, nr_b1, m1_lt, lt_m1, iN_ne_m1, m1_ne_iN, not_lt_z, true_and, and_true, and_self, or_true, true_or, or_false, false_or, if_true, if_false, ↓reduceIte, eq_self, up_at, up_a, up_k, cp_c, cp_b, Nat.zero_add, Nat.add_zero, Nat.sub_zero, Nat.le_refl, Nat.add_sub_cancel, fu_at, fu_ne, iN_nz, n10_f, n01_f, ofN, qq_at_100, k110b, Nat.lt_irrefl, Nat.not_lt_zero, ne_eq, not_false_eq_true, not_true_eq_false, h1, h2, h4, h5, qq_at_102, shr_z, shl_z, e0, b_5_22]
end SB
