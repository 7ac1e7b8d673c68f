/-! THE LAW: all its turns -/
section LO
variable {d L i : Nat} {xs : Nat → Int32} {I I' I2 : qq_I} {τ τ' τ2 : qq_R} {B : Nat} {C : sC}
theorem l5 {L i : Nat} (hL : L ≤ 2560) (hi : i ≤ 5000) : (Int32.ofNat L - iN 5 < iN i) = (L < i + 5) := by
  refine propext ?_
  have h1 : (Int32.ofNat L).toInt = L := iN_toInt (a := L) (by omega)
  have h2 : (iN 5).toInt = 5 := iN_toInt (by omega)
  have h3 : (iN i).toInt = i := iN_toInt (by omega)
  rw [Int32.lt_iff_toInt_lt, Int32.toInt_sub, h1, h2, h3, Int.bmod_eq_of_le (by omega) (by omega)]
  omega
theorem and63 (x : Int32) : ∃ k, k < 64 ∧ x &&& iN 63 = iN k := by
  refine ⟨(x.toBitVec &&& 63#32).toNat, ?_, ?_⟩
  · rw [BitVec.toNat_and]
    have : (63#32).toNat = 63 := by decide
    rw [this]
    have := Nat.and_le_right (n := x.toBitVec.toNat) (m := 63)
    omega
  · have h : x.toBitVec &&& 63#32 = BitVec.ofNat 32 (x.toBitVec &&& 63#32).toNat := by
      rw [BitVec.ofNat_toNat, BitVec.setWidth_eq]
    exact congrArg (fun b => Int32.ofBitVec b) h
/-- what a turn does, from the choice on -/
def TS (d L i : Nat) (y : Int32) (xs : Nat → Int32) (I : qq_I) (τ : qq_R) (B : Nat) : Prop := ∀ u6 u7 : Option Value, ∃ I' τ' C' v6 v7, RR (d + 42) 378 27 [some (.ref 1), some (.ref 70), some (.ref 308), some (.ref 318), some (.ref 319), some (.int (iN i)), u6, u7, none] [.int y] (I, τ) = RR (d + 42) 378 1828 [some (.ref 1), some (.ref 70), some (.ref 308), some (.ref 318), some (.ref 319), some (.int (iN i)), v6, v7, none] [] (I', τ') ∧ TI L xs I' τ' (B + 660) C' ∧ tZ τ' ≤ tZ τ + 20 ∧ tU τ' ≤ tU τ + 4000
theorem TS_of {a : Nat} {y : Int32} (h : TT d L i a xs I τ B) (hs : ∀ u6 u7 : Option Value, RR (d + 42) 378 27 [some (.ref 1), some (.ref 70), some (.ref 308), some (.ref 318), some (.ref 319), some (.int (iN i)), u6, u7, none] [.int y] (I, τ) = RR (d + 42) 378 a [some (.ref 1), some (.ref 70), some (.ref 308), some (.ref 318), some (.ref 319), some (.int (iN i)), u6, u7, none] [] (I, τ)) : TS d L i y xs I τ B := fun u6 u7 => by
  obtain ⟨I', τ', C', v6, v7, h1, h2⟩ := h u6 u7
  exact ⟨I', τ', C', v6, v7, (hs u6 u7).trans h1, h2⟩
theorem sel_0 (h : TI L xs I τ B C) (hB : B + 1400 ≤ 900000) (hi : i + 5 ≤ L) (hL : L ≤ 2560) {k : Nat} (h1 : 0 ≤ k) (h2 : k < 20) : TS d L i (iN k) xs I τ B := by
  by_cases e0 : k = 0
  · subst e0; exact TS_of (turn_0 h hB hi hL) (fun _ _ => s_378_27_0)
  by_cases e1 : k = 1
  · subst e1; exact TS_of (turn_1 h hB hi hL) (fun _ _ => s_378_27_1)
  by_cases e2 : k = 2
  · subst e2; exact TS_of (turn_2 h hB hi hL) (fun _ _ => s_378_27_2)
  by_cases e3 : k = 3
  · subst e3; exact TS_of (turn_3 h hB hi hL) (fun _ _ => s_378_27_3)
  by_cases e4 : k = 4
  · subst e4; exact TS_of (turn_4 h hB hi hL) (fun _ _ => s_378_27_4)
  by_cases e5 : k = 5
  · subst e5; exact TS_of (turn_5 h hB hi hL) (fun _ _ => s_378_27_5)
  by_cases e6 : k = 6
  · subst e6; exact TS_of (turn_6 h hB hi hL) (fun _ _ => s_378_27_6)
  by_cases e7 : k = 7
  · subst e7; exact TS_of (turn_7 h hB hi hL) (fun _ _ => s_378_27_7)
  by_cases e8 : k = 8
  · subst e8; exact TS_of (turn_8 h hB hi hL) (fun _ _ => s_378_27_8)
  by_cases e9 : k = 9
  · subst e9; exact TS_of (turn_9 h hB hi hL) (fun _ _ => s_378_27_9)
  by_cases e10 : k = 10
  · subst e10; exact TS_of (turn_10 h hB hi hL) (fun _ _ => s_378_27_10)
  by_cases e11 : k = 11
  · subst e11; exact TS_of (turn_11 h hB hi hL) (fun _ _ => s_378_27_11)
  by_cases e12 : k = 12
  · subst e12; exact TS_of (turn_12 h hB hi hL) (fun _ _ => s_378_27_12)
  by_cases e13 : k = 13
  · subst e13; exact TS_of (turn_13 h hB hi hL) (fun _ _ => s_378_27_13)
  by_cases e14 : k = 14
  · subst e14; exact TS_of (turn_14 h hB hi hL) (fun _ _ => s_378_27_14)
  by_cases e15 : k = 15
  · subst e15; exact TS_of (turn_15 h hB hi hL) (fun _ _ => s_378_27_15)
  by_cases e16 : k = 16
  · subst e16; exact TS_of (turn_16 h hB hi hL) (fun _ _ => s_378_27_16)
  by_cases e17 : k = 17
  · subst e17; exact TS_of (turn_17 h hB hi hL) (fun _ _ => s_378_27_17)
  by_cases e18 : k = 18
  · subst e18; exact TS_of (turn_18 h hB hi hL) (fun _ _ => s_378_27_18)
  by_cases e19 : k = 19
  · subst e19; exact TS_of (turn_19 h hB hi hL) (fun _ _ => s_378_27_19)
  omega
theorem sel_1 (h : TI L xs I τ B C) (hB : B + 1400 ≤ 900000) (hi : i + 5 ≤ L) (hL : L ≤ 2560) {k : Nat} (h1 : 20 ≤ k) (h2 : k < 40) : TS d L i (iN k) xs I τ B := by
  by_cases e20 : k = 20
  · subst e20; exact TS_of (turn_20 h hB hi hL) (fun _ _ => s_378_27_20)
  by_cases e21 : k = 21
  · subst e21; exact TS_of (turn_21 h hB hi hL) (fun _ _ => s_378_27_21)
  by_cases e22 : k = 22
  · subst e22; exact TS_of (turn_22 h hB hi hL) (fun _ _ => s_378_27_22)
  by_cases e23 : k = 23
  · subst e23; exact TS_of (turn_23 h hB hi hL) (fun _ _ => s_378_27_23)
  by_cases e24 : k = 24
  · subst e24; exact TS_of (turn_24 h hB hi hL) (fun _ _ => s_378_27_24)
  by_cases e25 : k = 25
  · subst e25; exact TS_of (turn_25 h hB hi hL) (fun _ _ => s_378_27_25)
  by_cases e26 : k = 26
  · subst e26; exact TS_of (turn_26 h hB hi hL) (fun _ _ => s_378_27_26)
  by_cases e27 : k = 27
  · subst e27; exact TS_of (turn_27 h hB hi hL) (fun _ _ => s_378_27_27)
  by_cases e28 : k = 28
  · subst e28; exact TS_of (turn_28 h hB hi hL) (fun _ _ => s_378_27_28)
  by_cases e29 : k = 29
  · subst e29; exact TS_of (turn_29 h hB hi hL) (fun _ _ => s_378_27_29)
  by_cases e30 : k = 30
  · subst e30; exact TS_of (turn_30 h hB hi hL) (fun _ _ => s_378_27_30)
  by_cases e31 : k = 31
  · subst e31; exact TS_of (turn_31 h hB hi hL) (fun _ _ => s_378_27_31)
  by_cases e32 : k = 32
  · subst e32; exact TS_of (turn_32 h hB hi hL) (fun _ _ => s_378_27_32)
  by_cases e33 : k = 33
  · subst e33; exact TS_of (turn_33 h hB hi hL) (fun _ _ => s_378_27_33)
  by_cases e34 : k = 34
  · subst e34; exact TS_of (turn_34 h hB hi hL) (fun _ _ => s_378_27_34)
  by_cases e35 : k = 35
  · subst e35; exact TS_of (turn_35 h hB hi hL) (fun _ _ => s_378_27_35)
  by_cases e36 : k = 36
  · subst e36; exact TS_of (turn_36 h hB hi hL) (fun _ _ => s_378_27_36)
  by_cases e37 : k = 37
  · subst e37; exact TS_of (turn_37 h hB hi hL) (fun _ _ => s_378_27_37)
  by_cases e38 : k = 38
  · subst e38; exact TS_of (turn_38 h hB hi hL) (fun _ _ => s_378_27_38)
  by_cases e39 : k = 39
  · subst e39; exact TS_of (turn_39 h hB hi hL) (fun _ _ => s_378_27_39)
  omega
theorem sel_2 (h : TI L xs I τ B C) (hB : B + 1400 ≤ 900000) (hi : i + 5 ≤ L) (hL : L ≤ 2560) {k : Nat} (h1 : 40 ≤ k) (h2 : k < 61) : TS d L i (iN k) xs I τ B := by
  by_cases e40 : k = 40
  · subst e40; exact TS_of (turn_40 h hB hi hL) (fun _ _ => s_378_27_40)
  by_cases e41 : k = 41
  · subst e41; exact TS_of (turn_41 h hB hi hL) (fun _ _ => s_378_27_41)
  by_cases e42 : k = 42
  · subst e42; exact TS_of (turn_42 h hB hi hL) (fun _ _ => s_378_27_42)
  by_cases e43 : k = 43
  · subst e43; exact TS_of (turn_43 h hB hi hL) (fun _ _ => s_378_27_43)
  by_cases e44 : k = 44
  · subst e44; exact TS_of (turn_44 h hB hi hL) (fun _ _ => s_378_27_44)
  by_cases e45 : k = 45
  · subst e45; exact TS_of (turn_45 h hB hi hL) (fun _ _ => s_378_27_45)
  by_cases e46 : k = 46
  · subst e46; exact TS_of (turn_46 h hB hi hL) (fun _ _ => s_378_27_46)
  by_cases e47 : k = 47
  · subst e47; exact TS_of (turn_47 h hB hi hL) (fun _ _ => s_378_27_47)
  by_cases e48 : k = 48
  · subst e48; exact TS_of (turn_48 h hB hi hL) (fun _ _ => s_378_27_48)
  by_cases e49 : k = 49
  · subst e49; exact TS_of (turn_49 h hB hi hL) (fun _ _ => s_378_27_49)
  by_cases e50 : k = 50
  · subst e50; exact TS_of (turn_50 h hB hi hL) (fun _ _ => s_378_27_50)
  by_cases e51 : k = 51
  · subst e51; exact TS_of (turn_51 h hB hi hL) (fun _ _ => s_378_27_51)
  by_cases e52 : k = 52
  · subst e52; exact TS_of (turn_52 h hB hi hL) (fun _ _ => s_378_27_52)
  by_cases e53 : k = 53
  · subst e53; exact TS_of (turn_53 h hB hi hL) (fun _ _ => s_378_27_53)
  by_cases e54 : k = 54
  · subst e54; exact TS_of (turn_54 h hB hi hL) (fun _ _ => s_378_27_54)
  by_cases e55 : k = 55
  · subst e55; exact TS_of (turn_55 h hB hi hL) (fun _ _ => s_378_27_55)
  by_cases e56 : k = 56
  · subst e56; exact TS_of (turn_56 h hB hi hL) (fun _ _ => s_378_27_56)
  by_cases e57 : k = 57
  · subst e57; exact TS_of (turn_57 h hB hi hL) (fun _ _ => s_378_27_57)
  by_cases e58 : k = 58
  · subst e58; exact TS_of (turn_58 h hB hi hL) (fun _ _ => s_378_27_58)
  by_cases e59 : k = 59
  · subst e59; exact TS_of (turn_59 h hB hi hL) (fun _ _ => s_378_27_59)
  by_cases e60 : k = 60
  · subst e60; exact TS_of (turn_60 h hB hi hL) (fun _ _ => s_378_27_60)
  omega
theorem sel_d {k : Nat} (h1 : 61 ≤ k) (h2 : k < 64) : qq_sw (.tableswitch 3171 0 60 #[260, 304, 372, 440, 508, 588, 680, 748, 804, 860, 916, 929, 985, 1048, 1104, 1172, 1240, 1296, 1309, 1365, 1421, 1477, 1540, 1603, 1659, 1715, 1728, 1784, 1840, 1896, 1952, 2015, 2071, 2127, 2183, 2196, 2209, 2265, 2321, 2377, 2433, 2446, 2459, 2472, 2485, 2498, 2511, 2524, 2589, 2655, 2668, 2724, 2780, 2836, 2894, 2938, 2982, 3026, 3070, 3114, 3127]) (iN k) = some 0 := by
  have : k = 61 ∨ k = 62 ∨ k = 63 := by omega
  rcases this with rfl | rfl | rfl <;> decide
theorem sel (h : TI L xs I τ B C) (hB : B + 1400 ≤ 900000) (hi : i + 5 ≤ L) (hL : L ≤ 2560) : TS d L i (xs i &&& iN 63) xs I τ B := by
  obtain ⟨k, hk, e⟩ := and63 (xs i)
  rw [e]
  by_cases c1 : k < 20
  · exact sel_0 h hB hi hL (Nat.zero_le k) c1
  by_cases c2 : k < 40
  · exact sel_1 h hB hi hL (by omega) c2
  by_cases c3 : k < 61
  · exact sel_2 h hB hi hL (by omega) c3
  intro u6 u7
  obtain ⟨t1, t2, t3⟩ := h
  exact ⟨I, τ, C, u6, u7, s_378_27_d (sel_d (by omega) hk), ⟨R_C_up t1 (by omega) (by omega), R_N_up t2 (by omega) (by omega), t3⟩, by omega, by omega⟩
theorem law_loop (hL : L ≤ 2560) : ∀ (n i B : Nat) (I : qq_I) (τ : qq_R) (C : sC) (u6 u7 : Option Value), TI L xs I τ B C → L < i + 5 * n + 5 → i ≤ L → B + 660 * n + 1400 ≤ 900000 → ∃ I' τ', RR (d + 42) 378 16 [some (.ref 1), some (.ref 70), some (.ref 308), some (.ref 318), some (.ref 319), some (.int (iN i)), u6, u7, none] [] (I, τ) = some (.inl (some (.int (iN 1))), (I', τ')) ∧ tZ τ' ≤ tZ τ + 20 * n ∧ tU τ' ≤ tU τ + 4000 * n := by
  intro n
  induction n with
  | zero =>
    intro i B I τ C u6 u7 h h1 hi hB
    have k1 := h.2.2.2.2.2.1
    have c : (Int32.ofNat L - iN 5 < iN i) = True := (l5 hL (by omega)).trans (eq_true (by omega))
    refine ⟨I, τ, ?_, by omega, by omega⟩
    rw [b_378_16]
    simp only [kd_mk, k1, qq_at_100, gd_true, c, if_true, nr_b1]
  | succ n ih =>
    intro i B I τ C u6 u7 h h1 hi hB
    have k1 := h.2.2.2.2.2.1
    by_cases q : L < i + 5
    · have c : (Int32.ofNat L - iN 5 < iN i) = True := (l5 hL (by omega)).trans (eq_true q)
      refine ⟨I, τ, ?_, by omega, by omega⟩
      rw [b_378_16]
      simp only [kd_mk, k1, qq_at_100, gd_true, c, if_true, nr_b1]
    · have c : (Int32.ofNat L - iN 5 < iN i) = False := (l5 hL (by omega)).trans (eq_false q)
      have v1 : vp_in (iN i) L = True := vp_iN (by omega) (by omega)
      have e1 : (iN i).toNatClampNeg = i := iN_n (by omega)
      have x1 := h.2.2.2.2.2.2 i (by omega)
      obtain ⟨I', τ', C', v6, v7, s1, t1, t2, t3⟩ := sel (d := d) (i := i) h (by omega) (by omega) hL u6 u7
      obtain ⟨I2, τ2, s2, z2, w2⟩ := ih (i + 5) (B + 660) I' τ' C' v6 v7 t1 (by omega) (by omega) (by omega)
      refine ⟨I2, τ2, ?_, by omega, by omega⟩
      rw [b_378_16]
      simp only [kd_mk, k1, qq_at_100, gd_true, c, if_false, v1, and_self, rd_I_mk, e1, x1, s1]
      rw [b_378_1828]
      simp only [iN_add, s2]
/-- nothing of some cells has changed -/
def Sm (lo hi : Nat) (I : qq_I) (τ : qq_R) (I' : qq_I) (τ' : qq_R) : Prop := ∀ a, lo ≤ a → a < hi → I' a = I a ∧ tK τ' a = tK τ a ∧ ∀ k, tR τ' a k = tR τ a k
theorem Sm_nT {lo hi s : Nat} {kd : Nat × Nat} (h : hi ≤ tZ τ) : Sm lo hi I τ (nwI τ I) (nT τ kd s) := fun a _ ha => ⟨nI_o (by omega), nT_Ko (by omega), fun k => nT_Ro (by omega)⟩
theorem Sm_CN {lo hi x n u : Nat} (h : CN x n u I τ I' τ') (hh : hi ≤ tZ τ) (hx : x < lo ∨ hi ≤ x) : Sm lo hi I τ I' τ' := fun a h1 h2 => ⟨(h.2.2.1 a (by omega) (by omega)).1, h.2.2.2 a (by omega), (h.2.2.1 a (by omega) (by omega)).2⟩
theorem Sm_tr {lo hi : Nat} (h1 : Sm lo hi I τ I' τ') (h2 : Sm lo hi I' τ' I2 τ2) : Sm lo hi I τ I2 τ2 := fun a ha hb => ⟨(h2 a ha hb).1.trans (h1 a ha hb).1, (h2 a ha hb).2.1.trans (h1 a ha hb).2.1, fun k => ((h2 a ha hb).2.2 k).trans ((h1 a ha hb).2.2 k)⟩
theorem law_start (hz : tZ τ = 70) (hK : KC I τ) (k1 : tK τ 1 = (100, L)) (hx : ∀ j, j < L → I 1 j = xs j) (hL : L ≤ 2560) : ∃ σ', CC (d + 42) 378 [.ref 1] (I, τ) = some (.inl (some (.int (iN 1))), σ') ∧ tZ σ'.2 ≤ 70 + 603072 ∧ tU σ'.2 ≤ tU τ + 7198826 := by
  have q12 : qq_nf 12 ≤ 20 := by decide
  have q13 : qq_nf 13 ≤ 20 := by decide
  have l12 : ((12 : Nat) < 200) = True := eq_true (by omega)
  have l13 : ((13 : Nat) < 200) = True := eq_true (by omega)
  have o1 : (iN 1).toNatClampNeg = 1 := iN_n (by omega)
  have o2 : (iN 1 < 0) = False := ltz0 (by omega)
  have o3 : ((1 : Nat) ≤ 65536) = True := eq_true (by omega)
  -- the program
  have s0 : CC (d + 42) 378 [.ref 1] (I, τ) = RR (d + 42) 378 1 [some (.ref 1), none, none, none, none, none, none, none, none] [.ref 70] (nwI τ I, nT τ (12, 0) (qq_nf 12)) := by
    rw [c_378, b_378_0, s_mk, nw_mk, hz]
  have m0 : Sm 0 70 I τ (nwI τ I) (nT τ (12, 0) (qq_nf 12)) := Sm_nT (by omega)
  have z1 : tZ (nT τ (12, 0) (qq_nf 12)) = 70 + 1 := by rw [nT_Z, hz]
  have u1 : tU (nT τ (12, 0) (qq_nf 12)) = tU τ + qq_nf 12 := nT_U
  have k70 : tK (nT τ (12, 0) (qq_nf 12)) 70 = (12, 0) := by rw [← hz]; exact nT_K
  generalize nwI τ I = I1 at *
  generalize nT τ (12, 0) (qq_nf 12) = τ1 at *
  obtain ⟨I2, τ2, s1, n1, f2⟩ := k_129 (d := d + 38) (I := I1) (τ := τ1) (c := 70) z1 (Nat.le_refl _) k70
  have s1 : CC (d + 41) 129 [.ref 70] (I1, τ1) = some (.inl none, (I2, τ2)) := s1
  have m1 : Sm 0 70 I1 τ1 I2 τ2 := Sm_CN n1 (by omega) (by omega)
  have z2 : tZ τ2 = 308 := by rw [n1.1, z1]
  have u2 := n1.2.1
  -- the model
  have m2 : Sm 0 308 I2 τ2 (nwI τ2 I2) (nT τ2 (13, 0) (qq_nf 13)) := Sm_nT (by omega)
  have z3 : tZ (nT τ2 (13, 0) (qq_nf 13)) = 308 + 1 := by rw [nT_Z, z2]
  have u3 : tU (nT τ2 (13, 0) (qq_nf 13)) = tU τ2 + qq_nf 13 := nT_U
  have k308 : tK (nT τ2 (13, 0) (qq_nf 13)) 308 = (13, 0) := by rw [← z2]; exact nT_K
  have i308 : ∀ k, nwI τ2 I2 308 k = iN 0 := fun k => nI_z z2.symm
  have s2 : RR (d + 42) 378 1 [some (.ref 1), none, none, none, none, none, none, none, none] [.ref 70] (I1, τ1) = RR (d + 42) 378 5 [some (.ref 1), some (.ref 70), none, none, none, none, none, none, none] [.ref 308] (nwI τ2 I2, nT τ2 (13, 0) (qq_nf 13)) := by
    rw [b_378_1]
    simp only [kd_mk, k70, l12, gd_true, s1, bd_ret, vl_none, b_378_3, s_mk, nw_mk, z2]
  generalize nwI τ2 I2 = I3 at *
  generalize nT τ2 (13, 0) (qq_nf 13) = τ3 at *
  obtain ⟨I4, τ4, s3, n3, f4⟩ := k_207 (d := d + 41) (I := I3) (τ := τ3) (m := 308) z3 (by omega) k308 i308
  have m3 : Sm 0 308 I3 τ3 I4 τ4 := Sm_CN n3 (by omega) (by omega)
  have z4 : tZ τ4 = 318 := by rw [n3.1, z3]
  have u4 := n3.2.1
  -- the answers
  have m4 : Sm 0 318 I4 τ4 (nwI τ4 I4) (nT τ4 (105, 1) 1) := Sm_nT (by omega)
  have z5 : tZ (nT τ4 (105, 1) 1) = 319 := by rw [nT_Z, z4]
  have u5 : tU (nT τ4 (105, 1) 1) = tU τ4 + 1 := nT_U
  have k318 : tK (nT τ4 (105, 1) 1) 318 = (105, 1) := by rw [← z4]; exact nT_K
  have s4 : RR (d + 42) 378 5 [some (.ref 1), some (.ref 70), none, none, none, none, none, none, none] [.ref 308] (I3, τ3) = RR (d + 42) 378 10 [some (.ref 1), some (.ref 70), some (.ref 308), none, none, none, none, none, none] [.ref 318] (nwI τ4 I4, nT τ4 (105, 1) 1) := by
    rw [b_378_5]
    simp only [kd_mk, k308, l13, gd_true, s3, bd_ret, vl_none, b_378_7, o1, o2, o3, not_false_eq_true, and_self, s_mk, nw_mk, z4]
  generalize nwI τ4 I4 = I5 at *
  generalize nT τ4 (105, 1) 1 = τ5 at *
  have m5 : Sm 0 319 I5 τ5 (nwI τ5 I5) (nT τ5 (106, 1) 1) := Sm_nT (by omega)
  have z6 : tZ (nT τ5 (106, 1) 1) = 320 := by rw [nT_Z, z5]
  have u6 : tU (nT τ5 (106, 1) 1) = tU τ5 + 1 := nT_U
  have k319 : tK (nT τ5 (106, 1) 1) 319 = (106, 1) := by rw [← z5]; exact nT_K
  have s5 : RR (d + 42) 378 10 [some (.ref 1), some (.ref 70), some (.ref 308), none, none, none, none, none, none] [.ref 318] (I5, τ5) = RR (d + 42) 378 16 [some (.ref 1), some (.ref 70), some (.ref 308), some (.ref 318), some (.ref 319), some (.int (iN 0)), none, none, none] [] (nwI τ5 I5, nT τ5 (106, 1) 1) := by
    rw [b_378_10]
    simp only [gd_true, b_378_13, o1, o2, o3, not_false_eq_true, and_self, s_mk, nw_mk, z5]
  generalize nwI τ5 I5 = I6 at *
  generalize nT τ5 (106, 1) 1 = τ6 at *
  have p70 : Sm 0 70 I τ I6 τ6 := by
    refine Sm_tr (Sm_tr m0 m1) ?_
    intro a h0 ha
    exact Sm_tr (lo := 0) (hi := 70) (fun a h0 ha => m2 a h0 (by omega)) (Sm_tr (fun a h0 ha => m3 a h0 (by omega)) (Sm_tr (fun a h0 ha => m4 a h0 (by omega)) (fun a h0 ha => m5 a h0 (by omega)))) a h0 ha
  have p308 : Sm 70 308 I2 τ2 I6 τ6 := Sm_tr (fun a h0 ha => m2 a (by omega) ha) (Sm_tr (fun a h0 ha => m3 a (by omega) ha) (Sm_tr (fun a h0 ha => m4 a (by omega) (by omega)) (fun a h0 ha => m5 a (by omega) (by omega))))
  have p318 : Sm 308 318 I4 τ4 I6 τ6 := Sm_tr (fun a h0 ha => m4 a (by omega) ha) (fun a h0 ha => m5 a (by omega) (by omega))
  have f6 : CF I6 τ6 70 := CF_T f2 (fun a h1 h2 => (p308 a h1 (by omega)).2) (fun a h1 h2 => (p308 a h1 (by omega)).1)
  have c6 : R_C I6 τ6 70 320 0 C0s := CF_C f6 (by omega) (by omega)
  have n6 : R_N I6 τ6 308 0 C0s := R_N_same f4 (fun a h1 h2 => (p318 a h1 (by omega)).2) (fun a h1 h2 => (p318 a h1 (by omega)).1)
  have t6 : TI L xs I6 τ6 0 C0s := ⟨c6, n6, KC_same hK (fun a ha => p70 a (Nat.zero_le _) ha), (m5 318 (by omega) (by omega)).2.1.trans k318, k319, (p70 1 (by omega) (by omega)).2.1.trans k1, fun j hj => by rw [(p70 1 (by omega) (by omega)).1]; exact hx j hj⟩
  obtain ⟨I', τ', s6, w1, w2⟩ := law_loop (d := d) hL 512 0 0 I6 τ6 C0s none none t6 (by omega) (Nat.zero_le _) (by omega)
  refine ⟨(I', τ'), ?_, ?_, ?_⟩
  · rw [s0, s2, s4, s5, s6]
  · show tZ τ' ≤ _
    omega
  · show tU τ' ≤ _
    omega
end LO
