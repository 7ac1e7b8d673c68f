/-! CONSTRUCTORS: plaza, writs, marble, realm -/
/-- a new cell put into a field -/
def nf (τ : qq_R) (kd : Nat × Nat) (s x k : Nat) : qq_R := uR (nT τ kd s) x k (tZ τ)
section NF
variable {τ : qq_R} {kd : Nat × Nat} {s x k a j : Nat} {I : qq_I}
theorem nf_Z : tZ (nf τ kd s x k) = tZ τ + 1 := rfl
theorem nf_U : tU (nf τ kd s x k) = tU τ + s := rfl
theorem nf_K (h : a ≠ tZ τ) : tK (nf τ kd s x k) a = tK τ a := nT_Ko h
theorem nf_Ka (h : a = tZ τ) : tK (nf τ kd s x k) a = kd := by rw [h]; exact nT_K
theorem nf_R : tR (nf τ kd s x k) x k = tZ τ := uR_at
theorem nf_Rk (h : j ≠ k) (hx : x ≠ tZ τ) : tR (nf τ kd s x k) x j = tR τ x j := (uR_k h).trans (nT_Ro hx)
theorem nf_Ra (h : a ≠ x) (hx : a ≠ tZ τ) : tR (nf τ kd s x k) a j = tR τ a j := (uR_a h).trans (nT_Ro hx)
theorem nI_z (h : a = tZ τ) : nwI τ I a j = iN 0 := by rw [h]; exact nI_at
theorem nI_k (h : a ≠ tZ τ) : nwI τ I a j = I a j := congrFun (nI_o h) j
theorem ltz0 {n : Nat} (h : n < 2147483648) : (iN n < 0) = False := not_lt_z h
theorem le16 {n : Nat} (h : n ≤ 65536) : (n ≤ 65536) = True := eq_true h
theorem u_mk {v : Nat} : wr_R (I, τ) a k v = (I, uR τ a k v) := rfl
theorem s_mk : sz_S (I, τ) = tZ τ := rfl
theorem nf_mk : uR (nT τ kd s) x k (tZ τ) = nf τ kd s x k := rfl
theorem lt2 {n : Nat} (h : n < 200) : (n < 200) = True := eq_true h
/-- behind a constructor of x: so many new cells -/
def CN (x n u : Nat) (I : qq_I) (τ : qq_R) (I' : qq_I) (τ' : qq_R) : Prop := tZ τ' = tZ τ + n ∧ tU τ' ≤ tU τ + u ∧ (∀ a, a < tZ τ → a ≠ x → I' a = I a ∧ ∀ k, tR τ' a k = tR τ a k) ∧ (∀ a, a < tZ τ → tK τ' a = tK τ a)
end NF
def P0s : sP := (0, fun _ => 0, 0, fun _ => 0, fun _ => 0, fun _ => 0, [])
def U0s : sU := ([], 0)
def M0s : sM := (fun _ => 0, iN 0, iN 0)
def S0s : sS := (P0s, U0s, M0s, (0, 0, iN 0, iN 0, iN 0))
theorem wS_0 : wS 0 S0s := by
  refine ⟨by omega, ⟨Nat.zero_le _, Nat.zero_le _, fun k hk => absurd hk (Nat.not_lt_zero _), fun k hk => absurd hk (Nat.not_lt_zero _), fun i j hi => absurd hi (Nat.not_lt_zero _), List.Perm.refl _, List.Pairwise.nil⟩, ⟨Nat.zero_le _, by decide, fun i j _ hj => absurd hj (Nat.not_lt_zero _), fun k hk => absurd hk (Nat.not_lt_zero _)⟩, Nat.le_refl _, Nat.le_refl _, fun k hk => absurd hk (Nat.not_lt_zero _), fun w _ => Nat.le_refl _, Nat.zero_le _, ?_⟩
  decide +kernel
section CT
variable {d : Nat} {I : qq_I} {τ : qq_R} {p b : Nat}
theorem k_58 (hz : tZ τ = p + 1) (h70 : 70 ≤ p) (hk : tK τ p = (7, 0)) : ∃ I' τ', CC d 58 [.ref p] (I, τ) = some (.inl none, (I', τ')) ∧ CN p 5 32 I τ I' τ' ∧ L_P τ' p ∧ R_P I' p P0s := by
  have e0 : (7 : Nat) < 200 := by omega
  refine ⟨nwI (nf (nf (nf (nf τ (100, 8) 8 p 1) (100, 6) 6 p 3) (100, 6) 6 p 4) (100, 6) 6 p 5) (nwI (nf (nf (nf τ (100, 8) 8 p 1) (100, 6) 6 p 3) (100, 6) 6 p 4) (nwI (nf (nf τ (100, 8) 8 p 1) (100, 6) 6 p 3) (nwI (nf τ (100, 8) 8 p 1) (up_2 (nwI τ (up_2 I p 0 (iN 0))) p 2 (iN 0))))), nf (nf (nf (nf (nf τ (100, 8) 8 p 1) (100, 6) 6 p 3) (100, 6) 6 p 4) (100, 6) 6 p 5) (100, 6) 6 p 6, ?_, ⟨?_, ?_, fun a ha hx => ⟨?_, fun k => ?_⟩, fun a ha => ?_⟩, ⟨h70, ?_⟩, ?_⟩
  · rw [c_58, b_58_0]
    simp (disch := first | omega | (simp only [nf_Z, uR_Z, nT_Z]; omega)) only [rd_I_mk, rd_R_mk, rd_L_mk, rd_D_mk, kd_mk, wr_I_mk, cp_mk, gd_true, bd_ret, bd_thr, vl_none, vl_some, iN_add, iN_mul, iN_sub, iN_lt, iN_eq, iN_n, iN_m1, iN_pred, vp_iN, K0_le, nr_b0, nr_b1, m1_lt, lt_m1, iN_ne_m1, m1_ne_iN, not_lt_z, true_and, and_true, and_self, or_true, true_or, or_false, false_or, if_true, if_false, ↓reduceIte, eq_self, up_at, up_a, up_k, cp_c, cp_b, Nat.zero_add, Nat.add_zero, Nat.sub_zero, Nat.le_refl, Nat.add_sub_cancel, fu_at, fu_ne, iN_nz, n10_f, n01_f, ofN, qq_at_100, k110b, Nat.lt_irrefl, Nat.not_lt_zero, ne_eq, not_false_eq_true, not_true_eq_false, nf_K, nf_Ka, nf_R, nf_Rk, nf_Ra, nT_Ko, nw_mk, s_mk, u_mk, nf_mk, ltz0, le16, lt2, hk, e0, b_58_5, b_58_8, b_58_9, b_58_12, b_58_15, b_58_16, b_58_19, b_58_20, b_58_23, b_58_24, b_58_27, b_58_28]
  · rw [nf_Z, nf_Z, nf_Z, nf_Z, nf_Z]
  · rw [nf_U, nf_U, nf_U, nf_U, nf_U]; omega
  · simp (disch := first | omega | (simp only [nf_Z, uR_Z, nT_Z]; omega)) only [rd_I_mk, rd_R_mk, rd_L_mk, rd_D_mk, kd_mk, wr_I_mk, cp_mk, gd_true, bd_ret, bd_thr, vl_none, vl_some, iN_add, iN_mul, iN_sub, iN_lt, iN_eq, iN_n, iN_m1, iN_pred, vp_iN, K0_le, nr_b0, nr_b1, m1_lt, lt_m1, iN_ne_m1, m1_ne_iN, not_lt_z, true_and, and_true, and_self, or_true, true_or, or_false, false_or, if_true, if_false, ↓reduceIte, eq_self, up_at, up_a, up_k, cp_c, cp_b, Nat.zero_add, Nat.add_zero, Nat.sub_zero, Nat.le_refl, Nat.add_sub_cancel, fu_at, fu_ne, iN_nz, n10_f, n01_f, ofN, qq_at_100, k110b, Nat.lt_irrefl, Nat.not_lt_zero, ne_eq, not_false_eq_true, not_true_eq_false, nf_Z, nf_K, nf_Ka, nf_R, nf_Rk, nf_Ra, ltz0, le16, lt2, nI_o, up_c]
  · simp (disch := first | omega | (simp only [nf_Z, uR_Z, nT_Z]; omega)) only [rd_I_mk, rd_R_mk, rd_L_mk, rd_D_mk, kd_mk, wr_I_mk, cp_mk, gd_true, bd_ret, bd_thr, vl_none, vl_some, iN_add, iN_mul, iN_sub, iN_lt, iN_eq, iN_n, iN_m1, iN_pred, vp_iN, K0_le, nr_b0, nr_b1, m1_lt, lt_m1, iN_ne_m1, m1_ne_iN, not_lt_z, true_and, and_true, and_self, or_true, true_or, or_false, false_or, if_true, if_false, ↓reduceIte, eq_self, up_at, up_a, up_k, cp_c, cp_b, Nat.zero_add, Nat.add_zero, Nat.sub_zero, Nat.le_refl, Nat.add_sub_cancel, fu_at, fu_ne, iN_nz, n10_f, n01_f, ofN, qq_at_100, k110b, Nat.lt_irrefl, Nat.not_lt_zero, ne_eq, not_false_eq_true, not_true_eq_false, nf_Z, nf_K, nf_Ka, nf_R, nf_Rk, nf_Ra, ltz0, le16, lt2]
  · simp (disch := first | omega | (simp only [nf_Z, uR_Z, nT_Z]; omega)) only [rd_I_mk, rd_R_mk, rd_L_mk, rd_D_mk, kd_mk, wr_I_mk, cp_mk, gd_true, bd_ret, bd_thr, vl_none, vl_some, iN_add, iN_mul, iN_sub, iN_lt, iN_eq, iN_n, iN_m1, iN_pred, vp_iN, K0_le, nr_b0, nr_b1, m1_lt, lt_m1, iN_ne_m1, m1_ne_iN, not_lt_z, true_and, and_true, and_self, or_true, true_or, or_false, false_or, if_true, if_false, ↓reduceIte, eq_self, up_at, up_a, up_k, cp_c, cp_b, Nat.zero_add, Nat.add_zero, Nat.sub_zero, Nat.le_refl, Nat.add_sub_cancel, fu_at, fu_ne, iN_nz, n10_f, n01_f, ofN, qq_at_100, k110b, Nat.lt_irrefl, Nat.not_lt_zero, ne_eq, not_false_eq_true, not_true_eq_false, nf_Z, nf_K, nf_Ka, nf_R, nf_Rk, nf_Ra, ltz0, le16, lt2]
  · refine ⟨?_, ?_, ?_, ?_, ?_, ?_, ?_, ?_, ?_, ?_, ?_⟩ <;> simp (disch := first | omega | (simp only [nf_Z, uR_Z, nT_Z]; omega)) only [rd_I_mk, rd_R_mk, rd_L_mk, rd_D_mk, kd_mk, wr_I_mk, cp_mk, gd_true, bd_ret, bd_thr, vl_none, vl_some, iN_add, iN_mul, iN_sub, iN_lt, iN_eq, iN_n, iN_m1, iN_pred, vp_iN, K0_le, nr_b0, nr_b1, m1_lt, lt_m1, iN_ne_m1, m1_ne_iN, not_lt_z, true_and, and_true, and_self, or_true, true_or, or_false, false_or, if_true, if_false, ↓reduceIte, eq_self, up_at, up_a, up_k, cp_c, cp_b, Nat.zero_add, Nat.add_zero, Nat.sub_zero, Nat.le_refl, Nat.add_sub_cancel, fu_at, fu_ne, iN_nz, n10_f, n01_f, ofN, qq_at_100, k110b, Nat.lt_irrefl, Nat.not_lt_zero, ne_eq, not_false_eq_true, not_true_eq_false, nf_Z, nf_K, nf_Ka, nf_R, nf_Rk, nf_Ra, ltz0, le16, lt2, hk, hz]
  · refine ⟨?_, ?_, fun k hk => absurd hk (Nat.not_lt_zero _), fun k hk => absurd hk (Nat.not_lt_zero _), fun k hk => absurd hk (Nat.not_lt_zero _), fun k hk => absurd hk (Nat.not_lt_zero _), fun k hk => absurd hk (Nat.not_lt_zero _)⟩
    · simp (disch := first | omega | (simp only [nf_Z, uR_Z, nT_Z]; omega)) only [rd_I_mk, rd_R_mk, rd_L_mk, rd_D_mk, kd_mk, wr_I_mk, cp_mk, gd_true, bd_ret, bd_thr, vl_none, vl_some, iN_add, iN_mul, iN_sub, iN_lt, iN_eq, iN_n, iN_m1, iN_pred, vp_iN, K0_le, nr_b0, nr_b1, m1_lt, lt_m1, iN_ne_m1, m1_ne_iN, not_lt_z, true_and, and_true, and_self, or_true, true_or, or_false, false_or, if_true, if_false, ↓reduceIte, eq_self, up_at, up_a, up_k, cp_c, cp_b, Nat.zero_add, Nat.add_zero, Nat.sub_zero, Nat.le_refl, Nat.add_sub_cancel, fu_at, fu_ne, iN_nz, n10_f, n01_f, ofN, qq_at_100, k110b, Nat.lt_irrefl, Nat.not_lt_zero, ne_eq, not_false_eq_true, not_true_eq_false, nf_Z, nf_K, nf_Ka, nf_R, nf_Rk, nf_Ra, ltz0, le16, lt2, nI_k, up_c, up_at, up_k]; rfl
    · simp (disch := first | omega | (simp only [nf_Z, uR_Z, nT_Z]; omega)) only [rd_I_mk, rd_R_mk, rd_L_mk, rd_D_mk, kd_mk, wr_I_mk, cp_mk, gd_true, bd_ret, bd_thr, vl_none, vl_some, iN_add, iN_mul, iN_sub, iN_lt, iN_eq, iN_n, iN_m1, iN_pred, vp_iN, K0_le, nr_b0, nr_b1, m1_lt, lt_m1, iN_ne_m1, m1_ne_iN, not_lt_z, true_and, and_true, and_self, or_true, true_or, or_false, false_or, if_true, if_false, ↓reduceIte, eq_self, up_at, up_a, up_k, cp_c, cp_b, Nat.zero_add, Nat.add_zero, Nat.sub_zero, Nat.le_refl, Nat.add_sub_cancel, fu_at, fu_ne, iN_nz, n10_f, n01_f, ofN, qq_at_100, k110b, Nat.lt_irrefl, Nat.not_lt_zero, ne_eq, not_false_eq_true, not_true_eq_false, nf_Z, nf_K, nf_Ka, nf_R, nf_Rk, nf_Ra, ltz0, le16, lt2, nI_k, up_c, up_at, up_k]; rfl
theorem k_119 (hz : tZ τ = p + 1) (h70 : 70 ≤ p) (hk : tK τ p = (11, 0)) : ∃ I' τ', CC d 119 [.ref p] (I, τ) = some (.inl none, (I', τ')) ∧ CN p 6 48 I τ I' τ' ∧ L_W τ' p ∧ R_U I' p U0s := by
  have e0 : (11 : Nat) < 200 := by omega
  refine ⟨nwI (nf (nf (nf (nf (nf τ (100, 8) 8 p 2) (100, 8) 8 p 3) (100, 8) 8 p 4) (100, 8) 8 p 5) (100, 8) 8 p 6) (nwI (nf (nf (nf (nf τ (100, 8) 8 p 2) (100, 8) 8 p 3) (100, 8) 8 p 4) (100, 8) 8 p 5) (nwI (nf (nf (nf τ (100, 8) 8 p 2) (100, 8) 8 p 3) (100, 8) 8 p 4) (nwI (nf (nf τ (100, 8) 8 p 2) (100, 8) 8 p 3) (nwI (nf τ (100, 8) 8 p 2) (nwI τ (up_2 (up_2 I p 0 (iN 0)) p 1 (iN 0))))))), nf (nf (nf (nf (nf (nf τ (100, 8) 8 p 2) (100, 8) 8 p 3) (100, 8) 8 p 4) (100, 8) 8 p 5) (100, 8) 8 p 6) (101, 8) 8 p 7, ?_, ⟨?_, ?_, fun a ha hx => ⟨?_, fun k => ?_⟩, fun a ha => ?_⟩, ⟨h70, ?_⟩, ?_⟩
  · rw [c_119, b_119_0]
    simp (disch := first | omega | (simp only [nf_Z, uR_Z, nT_Z]; omega)) only [rd_I_mk, rd_R_mk, rd_L_mk, rd_D_mk, kd_mk, wr_I_mk, cp_mk, gd_true, bd_ret, bd_thr, vl_none, vl_some, iN_add, iN_mul, iN_sub, iN_lt, iN_eq, iN_n, iN_m1, iN_pred, vp_iN, K0_le, nr_b0, nr_b1, m1_lt, lt_m1, iN_ne_m1, m1_ne_iN, not_lt_z, true_and, and_true, and_self, or_true, true_or, or_false, false_or, if_true, if_false, ↓reduceIte, eq_self, up_at, up_a, up_k, cp_c, cp_b, Nat.zero_add, Nat.add_zero, Nat.sub_zero, Nat.le_refl, Nat.add_sub_cancel, fu_at, fu_ne, iN_nz, n10_f, n01_f, ofN, qq_at_100, k110b, Nat.lt_irrefl, Nat.not_lt_zero, ne_eq, not_false_eq_true, not_true_eq_false, nf_K, nf_Ka, nf_R, nf_Rk, nf_Ra, nT_Ko, nw_mk, s_mk, u_mk, nf_mk, ltz0, le16, lt2, hk, e0, b_119_5, b_119_8, b_119_11, b_119_12, b_119_15, b_119_16, b_119_19, b_119_20, b_119_23, b_119_24, b_119_27, b_119_28, b_119_31, b_119_32]
  · rw [nf_Z, nf_Z, nf_Z, nf_Z, nf_Z, nf_Z]
  · rw [nf_U, nf_U, nf_U, nf_U, nf_U, nf_U]; omega
  · simp (disch := first | omega | (simp only [nf_Z, uR_Z, nT_Z]; omega)) only [rd_I_mk, rd_R_mk, rd_L_mk, rd_D_mk, kd_mk, wr_I_mk, cp_mk, gd_true, bd_ret, bd_thr, vl_none, vl_some, iN_add, iN_mul, iN_sub, iN_lt, iN_eq, iN_n, iN_m1, iN_pred, vp_iN, K0_le, nr_b0, nr_b1, m1_lt, lt_m1, iN_ne_m1, m1_ne_iN, not_lt_z, true_and, and_true, and_self, or_true, true_or, or_false, false_or, if_true, if_false, ↓reduceIte, eq_self, up_at, up_a, up_k, cp_c, cp_b, Nat.zero_add, Nat.add_zero, Nat.sub_zero, Nat.le_refl, Nat.add_sub_cancel, fu_at, fu_ne, iN_nz, n10_f, n01_f, ofN, qq_at_100, k110b, Nat.lt_irrefl, Nat.not_lt_zero, ne_eq, not_false_eq_true, not_true_eq_false, nf_Z, nf_K, nf_Ka, nf_R, nf_Rk, nf_Ra, ltz0, le16, lt2, nI_o, up_c]
  · simp (disch := first | omega | (simp only [nf_Z, uR_Z, nT_Z]; omega)) only [rd_I_mk, rd_R_mk, rd_L_mk, rd_D_mk, kd_mk, wr_I_mk, cp_mk, gd_true, bd_ret, bd_thr, vl_none, vl_some, iN_add, iN_mul, iN_sub, iN_lt, iN_eq, iN_n, iN_m1, iN_pred, vp_iN, K0_le, nr_b0, nr_b1, m1_lt, lt_m1, iN_ne_m1, m1_ne_iN, not_lt_z, true_and, and_true, and_self, or_true, true_or, or_false, false_or, if_true, if_false, ↓reduceIte, eq_self, up_at, up_a, up_k, cp_c, cp_b, Nat.zero_add, Nat.add_zero, Nat.sub_zero, Nat.le_refl, Nat.add_sub_cancel, fu_at, fu_ne, iN_nz, n10_f, n01_f, ofN, qq_at_100, k110b, Nat.lt_irrefl, Nat.not_lt_zero, ne_eq, not_false_eq_true, not_true_eq_false, nf_Z, nf_K, nf_Ka, nf_R, nf_Rk, nf_Ra, ltz0, le16, lt2]
  · simp (disch := first | omega | (simp only [nf_Z, uR_Z, nT_Z]; omega)) only [rd_I_mk, rd_R_mk, rd_L_mk, rd_D_mk, kd_mk, wr_I_mk, cp_mk, gd_true, bd_ret, bd_thr, vl_none, vl_some, iN_add, iN_mul, iN_sub, iN_lt, iN_eq, iN_n, iN_m1, iN_pred, vp_iN, K0_le, nr_b0, nr_b1, m1_lt, lt_m1, iN_ne_m1, m1_ne_iN, not_lt_z, true_and, and_true, and_self, or_true, true_or, or_false, false_or, if_true, if_false, ↓reduceIte, eq_self, up_at, up_a, up_k, cp_c, cp_b, Nat.zero_add, Nat.add_zero, Nat.sub_zero, Nat.le_refl, Nat.add_sub_cancel, fu_at, fu_ne, iN_nz, n10_f, n01_f, ofN, qq_at_100, k110b, Nat.lt_irrefl, Nat.not_lt_zero, ne_eq, not_false_eq_true, not_true_eq_false, nf_Z, nf_K, nf_Ka, nf_R, nf_Rk, nf_Ra, ltz0, le16, lt2]
  · refine ⟨?_, ?_, ?_, ?_, ?_, ?_, ?_, ?_, ?_, ?_, ?_, ?_, ?_⟩ <;> simp (disch := first | omega | (simp only [nf_Z, uR_Z, nT_Z]; omega)) only [rd_I_mk, rd_R_mk, rd_L_mk, rd_D_mk, kd_mk, wr_I_mk, cp_mk, gd_true, bd_ret, bd_thr, vl_none, vl_some, iN_add, iN_mul, iN_sub, iN_lt, iN_eq, iN_n, iN_m1, iN_pred, vp_iN, K0_le, nr_b0, nr_b1, m1_lt, lt_m1, iN_ne_m1, m1_ne_iN, not_lt_z, true_and, and_true, and_self, or_true, true_or, or_false, false_or, if_true, if_false, ↓reduceIte, eq_self, up_at, up_a, up_k, cp_c, cp_b, Nat.zero_add, Nat.add_zero, Nat.sub_zero, Nat.le_refl, Nat.add_sub_cancel, fu_at, fu_ne, iN_nz, n10_f, n01_f, ofN, qq_at_100, k110b, Nat.lt_irrefl, Nat.not_lt_zero, ne_eq, not_false_eq_true, not_true_eq_false, nf_Z, nf_K, nf_Ka, nf_R, nf_Rk, nf_Ra, ltz0, le16, lt2, hk, hz]
  · refine ⟨?_, ?_, fun k hk => absurd hk (Nat.not_lt_zero _), fun k hk => absurd hk (Nat.not_lt_zero _), fun k hk => absurd hk (Nat.not_lt_zero _), fun k hk => absurd hk (Nat.not_lt_zero _), fun k hk => absurd hk (Nat.not_lt_zero _), fun k hk => absurd hk (Nat.not_lt_zero _)⟩
    · simp (disch := first | omega | (simp only [nf_Z, uR_Z, nT_Z]; omega)) only [rd_I_mk, rd_R_mk, rd_L_mk, rd_D_mk, kd_mk, wr_I_mk, cp_mk, gd_true, bd_ret, bd_thr, vl_none, vl_some, iN_add, iN_mul, iN_sub, iN_lt, iN_eq, iN_n, iN_m1, iN_pred, vp_iN, K0_le, nr_b0, nr_b1, m1_lt, lt_m1, iN_ne_m1, m1_ne_iN, not_lt_z, true_and, and_true, and_self, or_true, true_or, or_false, false_or, if_true, if_false, ↓reduceIte, eq_self, up_at, up_a, up_k, cp_c, cp_b, Nat.zero_add, Nat.add_zero, Nat.sub_zero, Nat.le_refl, Nat.add_sub_cancel, fu_at, fu_ne, iN_nz, n10_f, n01_f, ofN, qq_at_100, k110b, Nat.lt_irrefl, Nat.not_lt_zero, ne_eq, not_false_eq_true, not_true_eq_false, nf_Z, nf_K, nf_Ka, nf_R, nf_Rk, nf_Ra, ltz0, le16, lt2, nI_k, up_c, up_at, up_k]; rfl
    · simp (disch := first | omega | (simp only [nf_Z, uR_Z, nT_Z]; omega)) only [rd_I_mk, rd_R_mk, rd_L_mk, rd_D_mk, kd_mk, wr_I_mk, cp_mk, gd_true, bd_ret, bd_thr, vl_none, vl_some, iN_add, iN_mul, iN_sub, iN_lt, iN_eq, iN_n, iN_m1, iN_pred, vp_iN, K0_le, nr_b0, nr_b1, m1_lt, lt_m1, iN_ne_m1, m1_ne_iN, not_lt_z, true_and, and_true, and_self, or_true, true_or, or_false, false_or, if_true, if_false, ↓reduceIte, eq_self, up_at, up_a, up_k, cp_c, cp_b, Nat.zero_add, Nat.add_zero, Nat.sub_zero, Nat.le_refl, Nat.add_sub_cancel, fu_at, fu_ne, iN_nz, n10_f, n01_f, ofN, qq_at_100, k110b, Nat.lt_irrefl, Nat.not_lt_zero, ne_eq, not_false_eq_true, not_true_eq_false, nf_Z, nf_K, nf_Ka, nf_R, nf_Rk, nf_Ra, ltz0, le16, lt2, nI_k, up_c, up_at, up_k]; rfl
theorem k_51 (hz : tZ τ = p + 1) (h70 : 70 ≤ p) (hk : tK τ p = (6, 0)) : ∃ I' τ', CC d 51 [.ref p] (I, τ) = some (.inl none, (I', τ')) ∧ CN p 2 42 I τ I' τ' ∧ L_M τ' p ∧ R_M I' p M0s := by
  have e0 : (6 : Nat) < 200 := by omega
  refine ⟨up_2 (nwI (nf τ (100, 21) 21 p 0) (nwI τ I)) p 2 (iN 0), nf (nf τ (100, 21) 21 p 0) (100, 21) 21 p 1, ?_, ⟨?_, ?_, fun a ha hx => ⟨?_, fun k => ?_⟩, fun a ha => ?_⟩, ⟨h70, ?_⟩, ?_⟩
  · rw [c_51, b_51_0]
    simp (disch := first | omega | (simp only [nf_Z, uR_Z, nT_Z]; omega)) only [rd_I_mk, rd_R_mk, rd_L_mk, rd_D_mk, kd_mk, wr_I_mk, cp_mk, gd_true, bd_ret, bd_thr, vl_none, vl_some, iN_add, iN_mul, iN_sub, iN_lt, iN_eq, iN_n, iN_m1, iN_pred, vp_iN, K0_le, nr_b0, nr_b1, m1_lt, lt_m1, iN_ne_m1, m1_ne_iN, not_lt_z, true_and, and_true, and_self, or_true, true_or, or_false, false_or, if_true, if_false, ↓reduceIte, eq_self, up_at, up_a, up_k, cp_c, cp_b, Nat.zero_add, Nat.add_zero, Nat.sub_zero, Nat.le_refl, Nat.add_sub_cancel, fu_at, fu_ne, iN_nz, n10_f, n01_f, ofN, qq_at_100, k110b, Nat.lt_irrefl, Nat.not_lt_zero, ne_eq, not_false_eq_true, not_true_eq_false, nf_K, nf_Ka, nf_R, nf_Rk, nf_Ra, nT_Ko, nw_mk, s_mk, u_mk, nf_mk, ltz0, le16, lt2, hk, e0, b_51_5, b_51_6, b_51_9, b_51_10, b_51_13]
  · rw [nf_Z, nf_Z]
  · rw [nf_U, nf_U]; omega
  · simp (disch := first | omega | (simp only [nf_Z, uR_Z, nT_Z]; omega)) only [rd_I_mk, rd_R_mk, rd_L_mk, rd_D_mk, kd_mk, wr_I_mk, cp_mk, gd_true, bd_ret, bd_thr, vl_none, vl_some, iN_add, iN_mul, iN_sub, iN_lt, iN_eq, iN_n, iN_m1, iN_pred, vp_iN, K0_le, nr_b0, nr_b1, m1_lt, lt_m1, iN_ne_m1, m1_ne_iN, not_lt_z, true_and, and_true, and_self, or_true, true_or, or_false, false_or, if_true, if_false, ↓reduceIte, eq_self, up_at, up_a, up_k, cp_c, cp_b, Nat.zero_add, Nat.add_zero, Nat.sub_zero, Nat.le_refl, Nat.add_sub_cancel, fu_at, fu_ne, iN_nz, n10_f, n01_f, ofN, qq_at_100, k110b, Nat.lt_irrefl, Nat.not_lt_zero, ne_eq, not_false_eq_true, not_true_eq_false, nf_Z, nf_K, nf_Ka, nf_R, nf_Rk, nf_Ra, ltz0, le16, lt2, nI_o, up_c]
  · simp (disch := first | omega | (simp only [nf_Z, uR_Z, nT_Z]; omega)) only [rd_I_mk, rd_R_mk, rd_L_mk, rd_D_mk, kd_mk, wr_I_mk, cp_mk, gd_true, bd_ret, bd_thr, vl_none, vl_some, iN_add, iN_mul, iN_sub, iN_lt, iN_eq, iN_n, iN_m1, iN_pred, vp_iN, K0_le, nr_b0, nr_b1, m1_lt, lt_m1, iN_ne_m1, m1_ne_iN, not_lt_z, true_and, and_true, and_self, or_true, true_or, or_false, false_or, if_true, if_false, ↓reduceIte, eq_self, up_at, up_a, up_k, cp_c, cp_b, Nat.zero_add, Nat.add_zero, Nat.sub_zero, Nat.le_refl, Nat.add_sub_cancel, fu_at, fu_ne, iN_nz, n10_f, n01_f, ofN, qq_at_100, k110b, Nat.lt_irrefl, Nat.not_lt_zero, ne_eq, not_false_eq_true, not_true_eq_false, nf_Z, nf_K, nf_Ka, nf_R, nf_Rk, nf_Ra, ltz0, le16, lt2]
  · simp (disch := first | omega | (simp only [nf_Z, uR_Z, nT_Z]; omega)) only [rd_I_mk, rd_R_mk, rd_L_mk, rd_D_mk, kd_mk, wr_I_mk, cp_mk, gd_true, bd_ret, bd_thr, vl_none, vl_some, iN_add, iN_mul, iN_sub, iN_lt, iN_eq, iN_n, iN_m1, iN_pred, vp_iN, K0_le, nr_b0, nr_b1, m1_lt, lt_m1, iN_ne_m1, m1_ne_iN, not_lt_z, true_and, and_true, and_self, or_true, true_or, or_false, false_or, if_true, if_false, ↓reduceIte, eq_self, up_at, up_a, up_k, cp_c, cp_b, Nat.zero_add, Nat.add_zero, Nat.sub_zero, Nat.le_refl, Nat.add_sub_cancel, fu_at, fu_ne, iN_nz, n10_f, n01_f, ofN, qq_at_100, k110b, Nat.lt_irrefl, Nat.not_lt_zero, ne_eq, not_false_eq_true, not_true_eq_false, nf_Z, nf_K, nf_Ka, nf_R, nf_Rk, nf_Ra, ltz0, le16, lt2]
  · refine ⟨?_, ?_, ?_, ?_, ?_⟩ <;> simp (disch := first | omega | (simp only [nf_Z, uR_Z, nT_Z]; omega)) only [rd_I_mk, rd_R_mk, rd_L_mk, rd_D_mk, kd_mk, wr_I_mk, cp_mk, gd_true, bd_ret, bd_thr, vl_none, vl_some, iN_add, iN_mul, iN_sub, iN_lt, iN_eq, iN_n, iN_m1, iN_pred, vp_iN, K0_le, nr_b0, nr_b1, m1_lt, lt_m1, iN_ne_m1, m1_ne_iN, not_lt_z, true_and, and_true, and_self, or_true, true_or, or_false, false_or, if_true, if_false, ↓reduceIte, eq_self, up_at, up_a, up_k, cp_c, cp_b, Nat.zero_add, Nat.add_zero, Nat.sub_zero, Nat.le_refl, Nat.add_sub_cancel, fu_at, fu_ne, iN_nz, n10_f, n01_f, ofN, qq_at_100, k110b, Nat.lt_irrefl, Nat.not_lt_zero, ne_eq, not_false_eq_true, not_true_eq_false, nf_Z, nf_K, nf_Ka, nf_R, nf_Rk, nf_Ra, ltz0, le16, lt2, hk, hz]
  · have z1 : ∀ w, up_2 (nwI (nf τ (100, 21) 21 p 0) (nwI τ I)) p 2 (iN 0) (p + 1) w = iN 0 := fun w => by
      rw [up_a (by omega), nI_k (by rw [nf_Z]; omega), nI_z (by omega)]
    have z2 : ∀ w, up_2 (nwI (nf τ (100, 21) 21 p 0) (nwI τ I)) p 2 (iN 0) (p + 2) w = iN 0 := fun w => by
      rw [up_a (by omega), nI_z (by rw [nf_Z]; omega)]
    refine ⟨fun w _ => z1 w, up_at, ?_⟩
    have : up_2 (nwI (nf τ (100, 21) 21 p 0) (nwI τ I)) p 2 (iN 0) (p + 2) = fun _ => iN 0 := funext z2
    rw [this]
    decide +kernel
theorem CN_tr {x n u n' u' : Nat} {I I1 I2 : qq_I} {τ τ1 τ2 : qq_R} {y : Nat} (h : CN x n u I τ I1 τ1) (hy : CN y n' u' I1 τ1 I2 τ2) (hxy : x = y ∨ tZ τ ≤ y) : CN x (n + n') (u + u') I τ I2 τ2 := by
  obtain ⟨a1, a2, a3, a4⟩ := h
  obtain ⟨b1, b2, b3, b4⟩ := hy
  exact ⟨by omega, by omega, fun a ha hx => ⟨((b3 a (by omega) (by omega)).1).trans (a3 a ha hx).1, fun k => ((b3 a (by omega) (by omega)).2 k).trans ((a3 a ha hx).2 k)⟩, fun a ha => (b4 a (by omega)).trans (a4 a ha)⟩
/-- a new object, not yet in a field -/
theorem CN_new {x : Nat} {kd : Nat × Nat} {s : Nat} : CN x 1 s I τ (nwI τ I) (nT τ kd s) := ⟨rfl, Nat.le_refl _, fun a ha _ => ⟨nI_o (by omega), fun k => nT_Ro (by omega)⟩, fun a ha => nT_Ko (by omega)⟩
theorem CN_R {x k v : Nat} : CN x 0 0 I τ I (uR τ x k v) := ⟨rfl, Nat.le_refl _, fun a ha hx => ⟨rfl, fun j => uR_a hx⟩, fun a ha => rfl⟩
theorem CN_I {x k : Nat} {v : Int32} : CN x 0 0 I τ (up_2 I x k v) τ := ⟨rfl, Nat.le_refl _, fun a ha hx => ⟨up_c hx, fun j => rfl⟩, fun a ha => rfl⟩
theorem CN_Tr {x n u lo m : Nat} {I' : qq_I} {τ' : qq_R} (h : CN x n u I τ I' τ') (hx : x < lo ∨ lo + m ≤ x) (hm : lo + m ≤ tZ τ) : Tr lo m τ τ' := fun a h1 h2 => ⟨h.2.2.2 a (by omega), (h.2.2.1 a (by omega) (by omega)).2⟩
theorem CN_le {x n u u' : Nat} {I' : qq_I} {τ' : qq_R} (h : CN x n u I τ I' τ') (hu : u ≤ u') : CN x n u' I τ I' τ' := ⟨h.1, by have := h.2.1; omega, h.2.2⟩
theorem k_74 (hz : tZ τ = b + 1) (h70 : 70 ≤ b) (hk : tK τ b = (8, 0)) : ∃ I' τ', CC (d + 1) 74 [.ref b] (I, τ) = some (.inl none, (I', τ')) ∧ CN b 16 200 I τ I' τ' ∧ L_R τ' b ∧ R_R I' b S0s := by
  have e0 : (8 : Nat) < 200 := by omega
  have e7 : (7 : Nat) < 200 := by omega
  have e11 : (11 : Nat) < 200 := by omega
  have e6 : (6 : Nat) < 200 := by omega
  have kz : ∀ ρ : qq_R, ∀ kd s, tK (nT ρ kd s) (tZ ρ) = kd := fun ρ kd s => nT_K
  obtain ⟨I1, τ1, s1, n1, l1, r1⟩ := k_58 (d := d) (I := nwI τ I) (τ := nT τ (7, 0) (qq_nf 7)) (p := b + 1) (by rw [nT_Z]; omega) (by omega) (by rw [← hz]; exact nT_K)
  have m1' : CN b (1 + 5) (qq_nf 7 + 32) I τ I1 τ1 := CN_tr CN_new n1 (Or.inr (by omega))
  have m1 : CN b (1 + 5 + 0) (qq_nf 7 + 32 + 0) I τ I1 (uR τ1 b 0 (b + 1)) := CN_tr m1' CN_R (Or.inl rfl)
  have z1 : tZ (uR τ1 b 0 (b + 1)) = b + 7 := by rw [m1.1]; omega
  have l1' : L_P (uR τ1 b 0 (b + 1)) (b + 1) := L_P_T l1 (CN_Tr (CN_R (I := I1) (x := b)) (by omega) (by have := m1'.1; omega))
  obtain ⟨I2, τ2, s2, n2, l2, r2⟩ := k_119 (d := d) (I := nwI (uR τ1 b 0 (b + 1)) I1) (τ := nT (uR τ1 b 0 (b + 1)) (11, 0) (qq_nf 11)) (p := b + 7) (by rw [nT_Z]; omega) (by omega) (by rw [← z1]; exact nT_K)
  have n2' : CN b (1 + 6) (qq_nf 11 + 48) I1 (uR τ1 b 0 (b + 1)) I2 τ2 := CN_tr CN_new n2 (Or.inr (by omega))
  have m2' := CN_tr m1 n2' (Or.inl rfl)
  have m2 := CN_tr m2' (CN_R (I := I2) (x := b) (k := 1) (v := b + 7)) (Or.inl rfl)
  have z2 : tZ (uR τ2 b 1 (b + 7)) = b + 14 := by rw [m2.1]; omega
  have t2 : CN b (1 + 6 + 0) (qq_nf 11 + 48 + 0) I1 (uR τ1 b 0 (b + 1)) I2 (uR τ2 b 1 (b + 7)) := CN_tr n2' CN_R (Or.inl rfl)
  have l2' : L_W (uR τ2 b 1 (b + 7)) (b + 7) := L_W_T l2 (CN_Tr (CN_R (I := I2) (x := b)) (by omega) (by have := m2'.1; omega))
  obtain ⟨I3, τ3, s3, n3, l3, r3⟩ := k_51 (d := d) (I := nwI (uR τ2 b 1 (b + 7)) I2) (τ := nT (uR τ2 b 1 (b + 7)) (6, 0) (qq_nf 6)) (p := b + 14) (by rw [nT_Z]; omega) (by omega) (by rw [← z2]; exact nT_K)
  have n3' : CN b (1 + 2) (qq_nf 6 + 42) I2 (uR τ2 b 1 (b + 7)) I3 τ3 := CN_tr CN_new n3 (Or.inr (by omega))
  have m3' := CN_tr m2 n3' (Or.inl rfl)
  have m3 := CN_tr m3' (CN_R (I := I3) (x := b) (k := 2) (v := b + 14)) (Or.inl rfl)
  have t3 : CN b (1 + 2 + 0) (qq_nf 6 + 42 + 0) I2 (uR τ2 b 1 (b + 7)) I3 (uR τ3 b 2 (b + 14)) := CN_tr n3' CN_R (Or.inl rfl)
  have z3 : tZ (uR τ3 b 2 (b + 14)) = b + 17 := by rw [m3.1]; omega
  have l3' : L_M (uR τ3 b 2 (b + 14)) (b + 14) := L_M_T l3 (CN_Tr (CN_R (I := I3) (x := b)) (by omega) (by have := m3'.1; omega))
  have hk1 : tK τ1 b = (8, 0) := (m1'.2.2.2 b (by omega)).trans hk
  have hk2 : tK τ2 b = (8, 0) := (m2'.2.2.2 b (by omega)).trans hk
  have hk3 : tK τ3 b = (8, 0) := (m3'.2.2.2 b (by omega)).trans hk
  have hz1 : tZ τ1 = b + 7 := z1
  have hz2 : tZ τ2 = b + 14 := z2
  have hz3 : tZ τ3 = b + 17 := z3
  have a1 : tK (nT τ (7, 0) (qq_nf 7)) (b + 1) = (7, 0) := by rw [← hz]; exact nT_K
  have a2 : tK (nT (uR τ1 b 0 (b + 1)) (11, 0) (qq_nf 11)) (b + 7) = (11, 0) := by rw [← hz1]; exact nT_K
  have a3 : tK (nT (uR τ2 b 1 (b + 7)) (6, 0) (qq_nf 6)) (b + 14) = (6, 0) := by rw [← hz2]; exact nT_K
  have q11 : qq_nf 11 ≤ 20 := by decide
  have q7 : qq_nf 7 ≤ 20 := by decide
  have q6 : qq_nf 6 ≤ 20 := by decide
  have rb1 : ∀ k, tR τ1 b k = tR τ b k := fun k => ((n1.2.2.1 b (by rw [nT_Z]; omega) (by omega)).2 k).trans (nT_Ro (by omega))
  have rb2 : ∀ k, tR τ2 b k = tR (uR τ1 b 0 (b + 1)) b k := fun k => ((n2.2.2.1 b (by rw [nT_Z, z1]; omega) (by omega)).2 k).trans (nT_Ro (by omega))
  have rb3 : ∀ k, tR τ3 b k = tR (uR τ2 b 1 (b + 7)) b k := fun k => ((n3.2.2.1 b (by rw [nT_Z, z2]; omega) (by omega)).2 k).trans (nT_Ro (by omega))
  refine ⟨up_2 (up_2 (up_2 (up_2 (up_2 I3 b 3 (iN 0)) b 4 Jvm.Pilot.CStatueChanceryLaw_law_r3868_0d6d38.m1) b 5 (iN 0)) b 6 (iN 0)) b 7 (iN 0), uR τ3 b 2 (b + 14), ?_, ?_, ⟨h70, ?_, ?_, ?_, ?_, ?_, ?_, l3'⟩, ?_⟩
  · rw [c_74, b_74_0]
    simp (disch := first | omega | (simp only [nT_Z, uR_Z]; omega)) only [kd_mk, hk, e0, gd_true, nw_mk, s_mk, hz, b_74_4, a1, e7, s1, bd_ret, vl_none, b_74_6, hk1, K0_le, and_self, true_and, and_true, u_mk, b_74_7, uR_K, uR_Z, hz1, b_74_9, a2, e11, s2, b_74_11, hk2, b_74_12, hz2, b_74_14, a3, e6, s3, b_74_16, hk3, b_74_17, wr_I_mk, b_74_20, b_74_23, b_74_26, b_74_29, b_74_32]
  · have m4 := CN_tr (CN_tr (CN_tr (CN_tr (CN_tr m3 (CN_I (x := b) (k := 3) (v := iN 0)) (Or.inl rfl)) (CN_I (x := b) (k := 4) (v := Jvm.Pilot.CStatueChanceryLaw_law_r3868_0d6d38.m1)) (Or.inl rfl)) (CN_I (x := b) (k := 5) (v := iN 0)) (Or.inl rfl)) (CN_I (x := b) (k := 6) (v := iN 0)) (Or.inl rfl)) (CN_I (x := b) (k := 7) (v := iN 0)) (Or.inl rfl)
    exact CN_le m4 (by omega)
  · rw [uR_K]; exact hk3
  · rw [uR_k (by omega), rb3, uR_k (by omega), rb2, uR_at]
  · rw [uR_k (by omega), rb3, uR_at]
  · exact uR_at
  · exact L_P_T (L_P_T l1' (CN_Tr t2 (by omega) (by omega))) (CN_Tr t3 (by omega) (by omega))
  · exact L_W_T l2' (CN_Tr t3 (by omega) (by omega))
  · have up : ∀ a, a ≠ b → up_2 (up_2 (up_2 (up_2 (up_2 I3 b 3 (iN 0)) b 4 Jvm.Pilot.CStatueChanceryLaw_law_r3868_0d6d38.m1) b 5 (iN 0)) b 6 (iN 0)) b 7 (iN 0) a = I3 a := fun a ha => by rw [up_c ha, up_c ha, up_c ha, up_c ha, up_c ha]
    refine ⟨R_P_same r1 (fun a h1 h2 => ?_), R_U_same r2 (fun a h1 h2 => ?_), R_M_same r3 (fun a h1 h2 => ?_), ?_, ?_, ?_, ?_, ?_⟩
    · rw [up a (by omega), (t3.2.2.1 a (by omega) (by omega)).1, (t2.2.2.1 a (by omega) (by omega)).1]
    · rw [up a (by omega), (t3.2.2.1 a (by omega) (by omega)).1]
    · rw [up a (by omega)]
    · rw [up_k (by omega), up_k (by omega), up_k (by omega), up_k (by omega), up_at]; rfl
    · rw [up_k (by omega), up_k (by omega), up_k (by omega), up_at]; rfl
    · rw [up_k (by omega), up_k (by omega), up_at]; rfl
    · rw [up_k (by omega), up_at]; rfl
    · rw [up_at]; rfl
end CT
