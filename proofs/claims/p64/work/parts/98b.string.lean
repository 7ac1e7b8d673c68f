/-! STRINGS that the law makes -/
/-- the string at q, its bytes at v -/
def Sg (I : qq_I) (τ : qq_R) (q v : Nat) (l : List Nat) : Prop := tK τ q = (0, 0) ∧ tR τ q 0 = v ∧ tK τ v = (102, l.length) ∧ I q 1 = iN 0 ∧ l.length ≤ 60 ∧ (∀ c ∈ l, c < 128) ∧ (∀ i (h : i < l.length), I v i = iN l[i])
section SG
variable {d : Nat} {I : qq_I} {τ : qq_R} {q v : Nat} {m : List Nat}
theorem c_sLen (h : Sg I τ q v m) : CC (d + 1) 14 [.ref q] (I, τ) = some (.inl (some (.int (iN m.length))), (I, τ)) := by
  obtain ⟨h3, h4, h5, h6, h7, h8, h9⟩ := h
  have f : CC d 15 [.ref q] (I, τ) = some (.inl (some (.int (iN 0))), (I, τ)) := by
    rw [c_15, b_15_0]
    simp (disch := omega) only [rd_I_mk, rd_R_mk, rd_L_mk, rd_D_mk, kd_mk, wr_I_mk, cp_mk, gd_true, bd_ret, bd_thr, vl_none, vl_some, iN_add, iN_mul, iN_sub, iN_lt, iN_eq, iN_n, iN_m1, iN_pred, vp_iN, K0_le, nr_b0, nr_b1, m1_lt, lt_m1, iN_ne_m1, m1_ne_iN, not_lt_z, true_and, and_true, and_self, or_true, true_or, or_false, false_or, if_true, if_false, ↓reduceIte, eq_self, up_at, up_a, up_k, cp_c, cp_b, Nat.zero_add, Nat.add_zero, Nat.sub_zero, Nat.le_refl, Nat.add_sub_cancel, fu_at, fu_ne, iN_nz, n10_f, n01_f, ofN, qq_at_100, k110b, Nat.lt_irrefl, Nat.not_lt_zero, ne_eq, not_false_eq_true, not_true_eq_false, h3, h6, b_15_6, nr_y0]
  rw [c_14, b_14_0]
  simp (disch := omega) only [rd_I_mk, rd_R_mk, rd_L_mk, rd_D_mk, kd_mk, wr_I_mk, cp_mk, gd_true, bd_ret, bd_thr, vl_none, vl_some, iN_add, iN_mul, iN_sub, iN_lt, iN_eq, iN_n, iN_m1, iN_pred, vp_iN, K0_le, nr_b0, nr_b1, m1_lt, lt_m1, iN_ne_m1, m1_ne_iN, not_lt_z, true_and, and_true, and_self, or_true, true_or, or_false, false_or, if_true, if_false, ↓reduceIte, eq_self, up_at, up_a, up_k, cp_c, cp_b, Nat.zero_add, Nat.add_zero, Nat.sub_zero, Nat.le_refl, Nat.add_sub_cancel, fu_at, fu_ne, iN_nz, n10_f, n01_f, ofN, qq_at_100, k110b, Nat.lt_irrefl, Nat.not_lt_zero, ne_eq, not_false_eq_true, not_true_eq_false, h3, h4, h5, qq_at_102, f, b_14_5, shr_z]
theorem c_sAt (h : Sg I τ q v m) {i : Nat} (hi : i < m.length) : CC (d + 3) 31 [.ref q, .int (iN i)] (I, τ) = some (.inl (some (.int (iN m[i]))), (I, τ)) := by
  obtain ⟨h3, h4, h5, h6, h7, h8, h9⟩ := h
  have hci := h8 m[i] (List.getElem_mem _)
  have gli := h9 i hi
  have hch := ch_b m[i] hci
  have f29 := c_checkIndex (d := d) (I := I) (τ := τ) hi (by omega)
  have f32 : CC (d + 2) 32 [.ref q] (I, τ) = some (.inl (some (.int (iN 1))), (I, τ)) := by
    rw [c_32, b_32_0]
    simp (disch := omega) only [rd_I_mk, rd_R_mk, rd_L_mk, rd_D_mk, kd_mk, wr_I_mk, cp_mk, gd_true, bd_ret, bd_thr, vl_none, vl_some, iN_add, iN_mul, iN_sub, iN_lt, iN_eq, iN_n, iN_m1, iN_pred, vp_iN, K0_le, nr_b0, nr_b1, m1_lt, lt_m1, iN_ne_m1, m1_ne_iN, not_lt_z, true_and, and_true, and_self, or_true, true_or, or_false, false_or, if_true, if_false, ↓reduceIte, eq_self, up_at, up_a, up_k, cp_c, cp_b, Nat.zero_add, Nat.add_zero, Nat.sub_zero, Nat.le_refl, Nat.add_sub_cancel, fu_at, fu_ne, iN_nz, n10_f, n01_f, ofN, qq_at_100, k110b, Nat.lt_irrefl, Nat.not_lt_zero, ne_eq, not_false_eq_true, not_true_eq_false, h3, h6, b_32_8]
  have f33 : CC (d + 2) 33 [.ref v, .int (iN i)] (I, τ) = some (.inl (some (.int (iN m[i]))), (I, τ)) := by
    rw [c_33, b_33_0]
    simp (disch := omega) only [rd_I_mk, rd_R_mk, rd_L_mk, rd_D_mk, kd_mk, wr_I_mk, cp_mk, gd_true, bd_ret, bd_thr, vl_none, vl_some, iN_add, iN_mul, iN_sub, iN_lt, iN_eq, iN_n, iN_m1, iN_pred, vp_iN, K0_le, nr_b0, nr_b1, m1_lt, lt_m1, iN_ne_m1, m1_ne_iN, not_lt_z, true_and, and_true, and_self, or_true, true_or, or_false, false_or, if_true, if_false, ↓reduceIte, eq_self, up_at, up_a, up_k, cp_c, cp_b, Nat.zero_add, Nat.add_zero, Nat.sub_zero, Nat.le_refl, Nat.add_sub_cancel, fu_at, fu_ne, iN_nz, n10_f, n01_f, ofN, qq_at_100, k110b, Nat.lt_irrefl, Nat.not_lt_zero, ne_eq, not_false_eq_true, not_true_eq_false, h5, qq_at_102, f29, b_33_4, gli, hch, nr_ch]
  rw [c_31, b_31_0]
  simp (disch := omega) only [rd_I_mk, rd_R_mk, rd_L_mk, rd_D_mk, kd_mk, wr_I_mk, cp_mk, gd_true, bd_ret, bd_thr, vl_none, vl_some, iN_add, iN_mul, iN_sub, iN_lt, iN_eq, iN_n, iN_m1, iN_pred, vp_iN, K0_le, nr_b0, nr_b1, m1_lt, lt_m1, iN_ne_m1, m1_ne_iN, not_lt_z, true_and, and_true, and_self, or_true, true_or, or_false, false_or, if_true, if_false, ↓reduceIte, eq_self, up_at, up_a, up_k, cp_c, cp_b, Nat.zero_add, Nat.add_zero, Nat.sub_zero, Nat.le_refl, Nat.add_sub_cancel, fu_at, fu_ne, iN_nz, n10_f, n01_f, ofN, qq_at_100, k110b, Nat.lt_irrefl, Nat.not_lt_zero, ne_eq, not_false_eq_true, not_true_eq_false, h3, f32, b_31_2, h4, f33, b_31_7, nr_ch]
theorem c_range {n m : Nat} (hv : tK τ v = (102, n)) (h70 : 70 ≤ v) (hvz : v < tZ τ) (hm : m ≤ n) (hn : n ≤ 1000) (hb : ∀ i, i < n → isB (I v i)) : CC (d + 2) 210 [.ref v, .int (iN 0), .int (iN m)] (I, τ) = some (.inl (some (.ref (tZ τ))), (cp_2 (nwI τ I) v 0 (tZ τ) 0 m, nT τ (102, m) m)) := by
  have a0 : (iN 0).toNatClampNeg = 0 := iN_n (by omega)
  have am : (iN m).toNatClampNeg = m := iN_n (by omega)
  have z70 : qq_K0 ≤ tZ τ := Nat.le_trans (show 70 ≤ v from h70) (Nat.le_of_lt hvz)
  have hnz : ∀ k, k < 2147483648 → ¬ iN k < 0 := fun k hk => of_eq_false (iN_nz hk)
  have hkz : tK (nT τ (102, m) m) (tZ τ) = (102, m) := nT_K
  have hkv : tK (nT τ (102, m) m) v = (102, n) := (nT_Ko (by omega)).trans hv
  rw [c_210, b_210_0, if_pos rfl]
  simp only [kd_mk, hv, ofN]
  rw [gd_t (of_eq_true qq_at_102)]
  by_cases e : m = n
  · subst e
    have ec : cl_S (I, τ) v = (cp_2 (nwI τ I) v 0 (tZ τ) 0 m, nT τ (102, m) m) := by
      unfold cl_S
      rw [show kd_S (I, τ) v = (102, m) from hv]
      rfl
    rw [if_pos rfl, gd_t ⟨trivial, h70, fun i hi => fit_b (hb i hi)⟩, ec, b_210_13]
    simp only [kd_mk, sz_mk, hkz]
    rw [gd_t ⟨trivial, z70⟩]
  · have hne : ¬ iN m = iN n := fun z => e (by rw [iN_eq (by omega) (by omega)] at z; exact z)
    rw [if_neg hne, b_210_6]
    have f213 : CC d 213 [.int (iN 0), .int (iN m)] (I, τ) = some (.inl none, (I, τ)) := by
      rw [c_213, b_213_0, if_neg (by rw [iN_lt (by omega) (by omega)]; omega)]
    have e9 : (if iN m < iN n - iN 0 then iN m else iN n - iN 0) = iN m := by
      rw [iN_sub (Nat.zero_le _), Nat.sub_zero, if_pos (by rw [iN_lt (by omega) (by omega)]; omega)]
    have f211 : CC (d + 1) 211 [.ref v, .int (iN 0), .int (iN m)] (I, τ) = some (.inl (some (.ref (tZ τ))), (cp_2 (nwI τ I) v 0 (tZ τ) 0 m, nT τ (102, m) m)) := by
      rw [c_211, b_211_0, f213, bd_ret, vl_none, b_211_3, iN_sub (Nat.zero_le _), Nat.sub_zero, am, gd_t ⟨hnz m (by omega), by omega⟩, nw_mk, sz_mk, b_211_9]
      simp only [kd_mk, hkv, hkz, ofN, e9, a0, am, rd_I_mk]
      rw [gd_t ⟨of_eq_true qq_at_102, ⟨trivial, Or.inr ⟨trivial, fun i hi => by rw [nI_o (by omega)]; exact fit_b (hb (0 + i) (by omega))⟩⟩, by omega, z70, ⟨hnz 0 (by omega), hnz 0 (by omega), hnz m (by omega)⟩, by omega, by omega⟩, cp_mk, b_211_21]
    rw [f211, bd_ret, vl_some, b_210_10]
theorem c_toString {s Z : Nat} {l : List Nat} (hR : R_B I τ s Z l) (hl : l.length ≤ 60) (hc : ∀ c ∈ l, c < 128) : ∃ I' τ', CC (d + 5) 207 [.ref s] (I, τ) = some (.inl (some (.ref (tZ τ))), (I', τ')) ∧ tZ τ' = tZ τ + 2 ∧ tU τ' ≤ tU τ + 64 ∧ (∀ a, a < tZ τ → I' a = I a ∧ tK τ' a = tK τ a ∧ ∀ k, tR τ' a k = tR τ a k) ∧ Sg I' τ' (tZ τ) (tZ τ + 1) l := by
  have hR0 := hR
  obtain ⟨s70, sZ, hZ, h1, h2, h3, v, n, h4, h5, h6, h7, h8, h9, hv, gi, gl⟩ := hR
  have hv70 : 70 ≤ v := by omega
  obtain ⟨z, hz⟩ : ∃ z, tZ τ = z := ⟨_, rfl⟩
  rw [hz] at hZ hv
  rw [hz]
  have sz : s ≠ z := by omega
  have vz : v ≠ z := by omega
  have q4 : qq_nf 0 = 4 := rfl
  -- the new string
  have k1 : tK (nT τ (0, 0) 4) z = (0, 0) := by rw [← hz]; exact nT_K
  have ks : tK (nT τ (0, 0) 4) s = (2, 0) := (nT_Ko (by rw [hz]; exact sz)).trans h1
  have kv : tK (nT τ (0, 0) 4) v = (102, n) := (nT_Ko (by rw [hz]; exact vz)).trans h5
  have rs : tR (nT τ (0, 0) 4) s 0 = v := (nT_Ro (by rw [hz]; exact sz)).trans h4
  have z1 : tZ (nT τ (0, 0) 4) = z + 1 := by rw [nT_Z, hz]
  have u1 : tU (nT τ (0, 0) 4) = tU τ + 4 := nT_U
  have o1 : ∀ a, a < z → nwI τ I a = I a ∧ tK (nT τ (0, 0) 4) a = tK τ a ∧ ∀ k, tR (nT τ (0, 0) 4) a k = tR τ a k := fun a ha => ⟨nI_o (by omega), nT_Ko (by omega), fun k => nT_Ro (by omega)⟩
  have s0 : CC (d + 5) 207 [.ref s] (I, τ) = RR (d + 5) 207 1 [some (.ref s)] [.ref z] (nwI τ I, nT τ (0, 0) 4) := by
    rw [c_207, b_207_0, nw_mk, sz_mk, hz, q4]
  have i1 : nwI τ I s 1 = iN 0 := by rw [(o1 s (by omega)).1]; exact h2
  have i3 : nwI τ I s 3 = iN l.length := by rw [(o1 s (by omega)).1]; exact h3
  have iv := (o1 v (by omega)).1
  generalize nwI τ I = I1 at *
  generalize nT τ (0, 0) 4 = τ1 at *
  have z70 : qq_K0 ≤ z := show 70 ≤ z by omega
  have l0 : ((0 : Nat) < 200) := by omega
  have hb : ∀ i, i < n → isB (up_2 I1 z 1 (iN 0) v i) := fun i hi => by rw [up_c vz, iv]; exact gi i hi
  have f210 := c_range (d := d) (I := up_2 I1 z 1 (iN 0)) (τ := τ1) (v := v) (n := n) (m := l.length) kv hv70 (by rw [z1]; omega) h6 (by omega) hb
  rw [z1] at f210
  have f212 : CC (d + 2) 212 [.ref s] (I1, τ1) = some (.inl (some (.ref v)), (I1, τ1)) := by
    rw [c_212, b_212_0]
    simp only [kd_mk, ks, rd_R_mk, rs, gd_true]
  have f24 : CC (d + 1) 24 [.ref s] (I1, τ1) = some (.inl (some (.int (iN l.length))), (I1, τ1)) := by
    rw [c_24, b_24_0]
    simp only [kd_mk, ks, rd_I_mk, i3, gd_true]
  have f23 : CC (d + 2) 23 [.ref s] (I1, τ1) = some (.inl (some (.int (iN l.length))), (I1, τ1)) := by
    rw [c_23, b_23_0]
    simp only [kd_mk, ks, gd_true, f24, bd_ret, vl_some, b_23_2]
  have f4 : CC (d + 2) 4 [.ref s] (I1, τ1) = some (.inl (some (.int (iN 1))), (I1, τ1)) := c_isLatin ks i1
  obtain ⟨I3, hI3⟩ : ∃ I3, I3 = cp_2 (nwI τ1 (up_2 I1 z 1 (iN 0))) v 0 (z + 1) 0 l.length := ⟨_, rfl⟩
  obtain ⟨τ3, hτ3⟩ : ∃ τ3, τ3 = nT τ1 (102, l.length) l.length := ⟨_, rfl⟩
  rw [← hI3, ← hτ3] at f210
  have k3 : tK τ3 z = (0, 0) := by rw [hτ3, nT_Ko (by omega)]; exact k1
  have kb : nk .byte (iN 0) := ⟨congrArg Value.int (by decide), by decide⟩
  have f209 : CC (d + 3) 209 [.ref z, .ref s, .ref 0] (I1, τ1) = some (.inl none, (I3, uR τ3 z 0 (z + 1))) := by
    rw [c_209, b_209_0]
    simp only [kd_mk, k1, ks, l0, gd_true, f212, bd_ret, vl_some, b_209_4, f23, b_209_7, f4, b_209_10]
    rw [if_neg (by decide), gd_t ⟨trivial, z70, kb⟩, wr_I_mk, b_209_14, f210, bd_ret, vl_some, b_209_19]
    simp only [kd_mk, k3]
    rw [gd_t ⟨trivial, z70⟩, wr_R_mk, b_209_20, b_209_50]
  refine ⟨I3, uR τ3 z 0 (z + 1), ?_, ?_, ?_, fun a ha => ⟨?_, ?_, fun k => ?_⟩, ?_⟩
  · rw [s0, b_207_1]
    simp only [kd_mk, k1, l0, gd_true]
    rw [c_208, b_208_0]
    simp only [kd_mk, k1, l0, gd_true, f209, bd_ret, vl_none, b_208_4, b_207_4]
  · rw [uR_Z, hτ3, nT_Z, z1]
  · rw [uR_U, hτ3, nT_U, u1]; omega
  · rw [hI3, cp_c (by omega), nI_o (by omega), up_c (by omega)]; exact (o1 a ha).1
  · rw [uR_K, hτ3, nT_Ko (by omega)]; exact (o1 a ha).2.1
  · rw [uR_a (by omega), hτ3, nT_Ro (by omega)]; exact (o1 a ha).2.2 k
  · refine ⟨by rw [uR_K]; exact k3, uR_at, ?_, ?_, hl, hc, fun i hi => ?_⟩
    · rw [uR_K, hτ3, ← z1]; exact nT_K
    · rw [hI3, cp_c (by omega), nI_o (by omega), up_at]
    · rw [hI3, cp_b (by omega), Nat.zero_add, Nat.sub_zero, nI_o (by omega), up_c vz, iv]
      exact gl i hi
end SG
