/-! CONSTRUCTORS: history, leaps, docket, till, script, builder, chancery -/
theorem nk_y0 : nk .byte (iN 0) = True := eq_true ⟨congrArg Value.int (by decide), by decide⟩
/-- rows of a table, new -/
def nwN (τ : qq_R) (I : qq_I) (n : Nat) : qq_I := ze_2 I (tZ τ) n 0
def nTN (τ : qq_R) (kd : Nat × Nat) (n s : Nat) : qq_R := (ze_2 τ.1 (tZ τ) n 0, ze_2 τ.2.1 (tZ τ) n 0, ze_2 τ.2.2.1 (tZ τ) n 0, (fun b => if tZ τ ≤ b ∧ b < tZ τ + n then kd else tK τ b), tZ τ + n, tU τ + s)
def grR (τ : qq_R) (a n : Nat) : qq_R := ((fun b j => if b = a ∧ j < n then a + 1 + j else τ.1 b j), τ.2)
section N2
variable {τ : qq_R} {kd : Nat × Nat} {n s a b j x k : Nat} {I : qq_I}
theorem nwN_mk : nw_S (I, τ) n kd s = (nwN τ I n, nTN τ kd n s) := rfl
theorem gr_mk : gr_S (I, τ) a n = (I, grR τ a n) := rfl
theorem nN_o (h : a < tZ τ) : nwN τ I n a = I a := funext (fun j => if_neg (fun q => by omega))
theorem nTN_K (h1 : tZ τ ≤ a) (h2 : a < tZ τ + n) : tK (nTN τ kd n s) a = kd := if_pos ⟨h1, h2⟩
theorem nTN_Ko (h : a < tZ τ) : tK (nTN τ kd n s) a = tK τ a := if_neg (fun q => by omega)
theorem nTN_R (h : a < tZ τ) : tR (nTN τ kd n s) a j = tR τ a j := if_neg (fun q => by omega)
theorem grR_at (h : j < n) : tR (grR τ a n) a j = a + 1 + j := if_pos ⟨rfl, h⟩
theorem grR_o (h : b ≠ a) : tR (grR τ a n) b j = tR τ b j := if_neg (fun q => h q.1)
/-- a new table of n rows of m places at z -/
theorem CN_tab {x m : Nat} (hz : a = tZ τ) : CN x (1 + n) (n + n * m) I τ (nwN (nT τ (110, n) n) (nwI τ I) n) (grR (nTN (nT τ (110, n) n) (100, m) n (n * m)) a n) ∧ tK (grR (nTN (nT τ (110, n) n) (100, m) n (n * m)) a n) a = (110, n) ∧ (∀ w, w < n → tR (grR (nTN (nT τ (110, n) n) (100, m) n (n * m)) a n) a w = a + 1 + w) ∧ (∀ w, w < n → tK (grR (nTN (nT τ (110, n) n) (100, m) n (n * m)) a n) (a + 1 + w) = (100, m)) := by
  subst hz
  refine ⟨⟨?_, ?_, fun b hb _ => ⟨?_, fun k => ?_⟩, fun b hb => ?_⟩, ?_, fun w hw => ?_, fun w hw => ?_⟩
  · show tZ τ + 1 + n = tZ τ + (1 + n); omega
  · show tU τ + n + n * m ≤ tU τ + (n + n * m); omega
  · rw [nN_o (by rw [nT_Z]; omega), nI_o (by omega)]
  · rw [grR_o (by omega), nTN_R (by rw [nT_Z]; omega), nT_Ro (by omega)]
  · show tK (nTN (nT τ (110, n) n) (100, m) n (n * m)) b = _
    rw [nTN_Ko (by rw [nT_Z]; omega), nT_Ko (by omega)]
  · show tK (nTN (nT τ (110, n) n) (100, m) n (n * m)) _ = _
    rw [nTN_Ko (by rw [nT_Z]; omega), nT_K]
  · exact grR_at hw
  · show tK (nTN (nT τ (110, n) n) (100, m) n (n * m)) _ = _
    rw [nTN_K (by rw [nT_Z]; omega) (by rw [nT_Z]; omega)]
/-- a new object made and put into a field -/
theorem CN_fld {x z n u s k : Nat} {kd : Nat × Nat} {I1 : qq_I} {τ1 : qq_R} (hz : tZ τ = z) (hx : x < z) (h : CN z n u (nwI τ I) (nT τ kd s) I1 τ1) : CN x (1 + n) (s + u) I τ I1 (uR τ1 x k z) ∧ (∀ j, j ≠ k → tR (uR τ1 x k z) x j = tR τ x j) ∧ tR (uR τ1 x k z) x k = z ∧ I1 x = I x ∧ Tr z (n + 1) τ1 (uR τ1 x k z) ∧ tK τ1 x = tK τ x := by
  have h1 : CN x (1 + n) (s + u) I τ I1 τ1 := CN_tr CN_new h (Or.inr (by omega))
  have hx2 := h.2.2.1 x (by rw [nT_Z]; omega) (by omega)
  exact ⟨⟨h1.1, h1.2.1, fun a ha hax => ⟨(h1.2.2.1 a ha hax).1, fun j => (uR_a hax).trans ((h1.2.2.1 a ha hax).2 j)⟩, h1.2.2.2⟩, fun j hj => by rw [uR_k hj, hx2.2 j, nT_Ro (by omega)], uR_at, hx2.1.trans (nI_o (by omega)), fun a a1 a2 => ⟨rfl, fun j => uR_a (by omega)⟩, (h.2.2.2 x (by rw [nT_Z]; omega)).trans (nT_Ko (by omega))⟩
end N2
/-- a builder as it is new -/
def BD (I : qq_I) (τ : qq_R) (s : Nat) : Prop := tK τ s = (2, 0) ∧ I s 1 = iN 0 ∧ I s 3 = iN 0 ∧ tR τ s 0 = s + 1 ∧ tK τ (s + 1) = (102, 16) ∧ ∀ i, isB (I (s + 1) i)
theorem BD_T {I I' : qq_I} {τ τ' : qq_R} {s : Nat} (h : BD I τ s) (hT : Tr s 2 τ τ') (h1 : I' s = I s) (h2 : I' (s + 1) = I (s + 1)) : BD I' τ' s := by
  obtain ⟨a1, a2, a3, a4, a5, a6⟩ := h
  exact ⟨by rw [Tr_K hT (by omega) (by omega)]; exact a1, by rw [h1]; exact a2, by rw [h1]; exact a3, by rw [Tr_R hT (by omega) (by omega)]; exact a4, by rw [Tr_K hT (by omega) (by omega)]; exact a5, fun i => by rw [h2]; exact a6 i⟩
section C2
variable {d : Nat} {I : qq_I} {τ : qq_R} {p : Nat}
theorem k_48 (hz : tZ τ = p + 1) (h70 : 70 ≤ p) (hk : tK τ p = (5, 0)) : ∃ I' τ', CC d 48 [.ref p] (I, τ) = some (.inl none, (I', τ')) ∧ CN p 2 16 I τ I' τ' ∧ L_L τ' p := by
  have e0 : (5 : Nat) < 200 := by omega
  refine ⟨nwI (nf τ (100, 8) 8 p 0) (nwI τ I), nf (nf τ (100, 8) 8 p 0) (100, 8) 8 p 1, ?_, ⟨?_, ?_, fun a ha hx => ⟨?_, fun k => ?_⟩, fun a ha => ?_⟩, ⟨h70, ?_⟩⟩
  · rw [c_48, b_48_0]
    simp (disch := first | omega | (simp only [nf_Z, uR_Z, nT_Z]; omega)) only [rd_I_mk, rd_R_mk, rd_L_mk, rd_D_mk, kd_mk, wr_I_mk, cp_mk, gd_true, bd_ret, bd_thr, vl_none, vl_some, iN_add, iN_mul, iN_sub, iN_lt, iN_eq, iN_n, iN_m1, iN_pred, vp_iN, K0_le, nr_b0, nr_b1, m1_lt, lt_m1, iN_ne_m1, m1_ne_iN, not_lt_z, true_and, and_true, and_self, or_true, true_or, or_false, false_or, if_true, if_false, ↓reduceIte, eq_self, up_at, up_a, up_k, cp_c, cp_b, Nat.zero_add, Nat.add_zero, Nat.sub_zero, Nat.le_refl, Nat.add_sub_cancel, fu_at, fu_ne, iN_nz, n10_f, n01_f, ofN, qq_at_100, k110b, Nat.lt_irrefl, Nat.not_lt_zero, ne_eq, not_false_eq_true, not_true_eq_false, nf_K, nf_Ka, nf_R, nf_Rk, nf_Ra, nT_Ko, nw_mk, s_mk, u_mk, nf_mk, ltz0, le16, lt2, hk, e0, b_48_5, b_48_6, b_48_9, b_48_10]
  · rw [nf_Z, nf_Z]
  · rw [nf_U, nf_U]; omega
  · simp (disch := first | omega | (simp only [nf_Z, uR_Z, nT_Z]; omega)) only [rd_I_mk, rd_R_mk, rd_L_mk, rd_D_mk, kd_mk, wr_I_mk, cp_mk, gd_true, bd_ret, bd_thr, vl_none, vl_some, iN_add, iN_mul, iN_sub, iN_lt, iN_eq, iN_n, iN_m1, iN_pred, vp_iN, K0_le, nr_b0, nr_b1, m1_lt, lt_m1, iN_ne_m1, m1_ne_iN, not_lt_z, true_and, and_true, and_self, or_true, true_or, or_false, false_or, if_true, if_false, ↓reduceIte, eq_self, up_at, up_a, up_k, cp_c, cp_b, Nat.zero_add, Nat.add_zero, Nat.sub_zero, Nat.le_refl, Nat.add_sub_cancel, fu_at, fu_ne, iN_nz, n10_f, n01_f, ofN, qq_at_100, k110b, Nat.lt_irrefl, Nat.not_lt_zero, ne_eq, not_false_eq_true, not_true_eq_false, nf_Z, nf_K, nf_Ka, nf_R, nf_Rk, nf_Ra, ltz0, le16, lt2, nI_o, up_c]
  · simp (disch := first | omega | (simp only [nf_Z, uR_Z, nT_Z]; omega)) only [rd_I_mk, rd_R_mk, rd_L_mk, rd_D_mk, kd_mk, wr_I_mk, cp_mk, gd_true, bd_ret, bd_thr, vl_none, vl_some, iN_add, iN_mul, iN_sub, iN_lt, iN_eq, iN_n, iN_m1, iN_pred, vp_iN, K0_le, nr_b0, nr_b1, m1_lt, lt_m1, iN_ne_m1, m1_ne_iN, not_lt_z, true_and, and_true, and_self, or_true, true_or, or_false, false_or, if_true, if_false, ↓reduceIte, eq_self, up_at, up_a, up_k, cp_c, cp_b, Nat.zero_add, Nat.add_zero, Nat.sub_zero, Nat.le_refl, Nat.add_sub_cancel, fu_at, fu_ne, iN_nz, n10_f, n01_f, ofN, qq_at_100, k110b, Nat.lt_irrefl, Nat.not_lt_zero, ne_eq, not_false_eq_true, not_true_eq_false, nf_Z, nf_K, nf_Ka, nf_R, nf_Rk, nf_Ra, ltz0, le16, lt2]
  · simp (disch := first | omega | (simp only [nf_Z, uR_Z, nT_Z]; omega)) only [rd_I_mk, rd_R_mk, rd_L_mk, rd_D_mk, kd_mk, wr_I_mk, cp_mk, gd_true, bd_ret, bd_thr, vl_none, vl_some, iN_add, iN_mul, iN_sub, iN_lt, iN_eq, iN_n, iN_m1, iN_pred, vp_iN, K0_le, nr_b0, nr_b1, m1_lt, lt_m1, iN_ne_m1, m1_ne_iN, not_lt_z, true_and, and_true, and_self, or_true, true_or, or_false, false_or, if_true, if_false, ↓reduceIte, eq_self, up_at, up_a, up_k, cp_c, cp_b, Nat.zero_add, Nat.add_zero, Nat.sub_zero, Nat.le_refl, Nat.add_sub_cancel, fu_at, fu_ne, iN_nz, n10_f, n01_f, ofN, qq_at_100, k110b, Nat.lt_irrefl, Nat.not_lt_zero, ne_eq, not_false_eq_true, not_true_eq_false, nf_Z, nf_K, nf_Ka, nf_R, nf_Rk, nf_Ra, ltz0, le16, lt2]
  · refine ⟨?_, ?_, ?_, ?_, ?_⟩ <;> simp (disch := first | omega | (simp only [nf_Z, uR_Z, nT_Z]; omega)) only [rd_I_mk, rd_R_mk, rd_L_mk, rd_D_mk, kd_mk, wr_I_mk, cp_mk, gd_true, bd_ret, bd_thr, vl_none, vl_some, iN_add, iN_mul, iN_sub, iN_lt, iN_eq, iN_n, iN_m1, iN_pred, vp_iN, K0_le, nr_b0, nr_b1, m1_lt, lt_m1, iN_ne_m1, m1_ne_iN, not_lt_z, true_and, and_true, and_self, or_true, true_or, or_false, false_or, if_true, if_false, ↓reduceIte, eq_self, up_at, up_a, up_k, cp_c, cp_b, Nat.zero_add, Nat.add_zero, Nat.sub_zero, Nat.le_refl, Nat.add_sub_cancel, fu_at, fu_ne, iN_nz, n10_f, n01_f, ofN, qq_at_100, k110b, Nat.lt_irrefl, Nat.not_lt_zero, ne_eq, not_false_eq_true, not_true_eq_false, nf_Z, nf_K, nf_Ka, nf_R, nf_Rk, nf_Ra, ltz0, le16, lt2, hk, hz]
theorem k_36 (hz : tZ τ = p + 1) (h70 : 70 ≤ p) (hk : tK τ p = (3, 0)) : ∃ I' τ', CC d 36 [.ref p] (I, τ) = some (.inl none, (I', τ')) ∧ CN p 2 16 I τ I' τ' ∧ L_D τ' p := by
  have e0 : (3 : Nat) < 200 := by omega
  refine ⟨nwI (nf τ (100, 8) 8 p 0) (nwI τ I), nf (nf τ (100, 8) 8 p 0) (100, 8) 8 p 1, ?_, ⟨?_, ?_, fun a ha hx => ⟨?_, fun k => ?_⟩, fun a ha => ?_⟩, ⟨h70, ?_⟩⟩
  · rw [c_36, b_36_0]
    simp (disch := first | omega | (simp only [nf_Z, uR_Z, nT_Z]; omega)) only [rd_I_mk, rd_R_mk, rd_L_mk, rd_D_mk, kd_mk, wr_I_mk, cp_mk, gd_true, bd_ret, bd_thr, vl_none, vl_some, iN_add, iN_mul, iN_sub, iN_lt, iN_eq, iN_n, iN_m1, iN_pred, vp_iN, K0_le, nr_b0, nr_b1, m1_lt, lt_m1, iN_ne_m1, m1_ne_iN, not_lt_z, true_and, and_true, and_self, or_true, true_or, or_false, false_or, if_true, if_false, ↓reduceIte, eq_self, up_at, up_a, up_k, cp_c, cp_b, Nat.zero_add, Nat.add_zero, Nat.sub_zero, Nat.le_refl, Nat.add_sub_cancel, fu_at, fu_ne, iN_nz, n10_f, n01_f, ofN, qq_at_100, k110b, Nat.lt_irrefl, Nat.not_lt_zero, ne_eq, not_false_eq_true, not_true_eq_false, nf_K, nf_Ka, nf_R, nf_Rk, nf_Ra, nT_Ko, nw_mk, s_mk, u_mk, nf_mk, ltz0, le16, lt2, hk, e0, b_36_5, b_36_6, b_36_9, b_36_10]
  · rw [nf_Z, nf_Z]
  · rw [nf_U, nf_U]; omega
  · simp (disch := first | omega | (simp only [nf_Z, uR_Z, nT_Z]; omega)) only [rd_I_mk, rd_R_mk, rd_L_mk, rd_D_mk, kd_mk, wr_I_mk, cp_mk, gd_true, bd_ret, bd_thr, vl_none, vl_some, iN_add, iN_mul, iN_sub, iN_lt, iN_eq, iN_n, iN_m1, iN_pred, vp_iN, K0_le, nr_b0, nr_b1, m1_lt, lt_m1, iN_ne_m1, m1_ne_iN, not_lt_z, true_and, and_true, and_self, or_true, true_or, or_false, false_or, if_true, if_false, ↓reduceIte, eq_self, up_at, up_a, up_k, cp_c, cp_b, Nat.zero_add, Nat.add_zero, Nat.sub_zero, Nat.le_refl, Nat.add_sub_cancel, fu_at, fu_ne, iN_nz, n10_f, n01_f, ofN, qq_at_100, k110b, Nat.lt_irrefl, Nat.not_lt_zero, ne_eq, not_false_eq_true, not_true_eq_false, nf_Z, nf_K, nf_Ka, nf_R, nf_Rk, nf_Ra, ltz0, le16, lt2, nI_o, up_c]
  · simp (disch := first | omega | (simp only [nf_Z, uR_Z, nT_Z]; omega)) only [rd_I_mk, rd_R_mk, rd_L_mk, rd_D_mk, kd_mk, wr_I_mk, cp_mk, gd_true, bd_ret, bd_thr, vl_none, vl_some, iN_add, iN_mul, iN_sub, iN_lt, iN_eq, iN_n, iN_m1, iN_pred, vp_iN, K0_le, nr_b0, nr_b1, m1_lt, lt_m1, iN_ne_m1, m1_ne_iN, not_lt_z, true_and, and_true, and_self, or_true, true_or, or_false, false_or, if_true, if_false, ↓reduceIte, eq_self, up_at, up_a, up_k, cp_c, cp_b, Nat.zero_add, Nat.add_zero, Nat.sub_zero, Nat.le_refl, Nat.add_sub_cancel, fu_at, fu_ne, iN_nz, n10_f, n01_f, ofN, qq_at_100, k110b, Nat.lt_irrefl, Nat.not_lt_zero, ne_eq, not_false_eq_true, not_true_eq_false, nf_Z, nf_K, nf_Ka, nf_R, nf_Rk, nf_Ra, ltz0, le16, lt2]
  · simp (disch := first | omega | (simp only [nf_Z, uR_Z, nT_Z]; omega)) only [rd_I_mk, rd_R_mk, rd_L_mk, rd_D_mk, kd_mk, wr_I_mk, cp_mk, gd_true, bd_ret, bd_thr, vl_none, vl_some, iN_add, iN_mul, iN_sub, iN_lt, iN_eq, iN_n, iN_m1, iN_pred, vp_iN, K0_le, nr_b0, nr_b1, m1_lt, lt_m1, iN_ne_m1, m1_ne_iN, not_lt_z, true_and, and_true, and_self, or_true, true_or, or_false, false_or, if_true, if_false, ↓reduceIte, eq_self, up_at, up_a, up_k, cp_c, cp_b, Nat.zero_add, Nat.add_zero, Nat.sub_zero, Nat.le_refl, Nat.add_sub_cancel, fu_at, fu_ne, iN_nz, n10_f, n01_f, ofN, qq_at_100, k110b, Nat.lt_irrefl, Nat.not_lt_zero, ne_eq, not_false_eq_true, not_true_eq_false, nf_Z, nf_K, nf_Ka, nf_R, nf_Rk, nf_Ra, ltz0, le16, lt2]
  · refine ⟨?_, ?_, ?_, ?_, ?_⟩ <;> simp (disch := first | omega | (simp only [nf_Z, uR_Z, nT_Z]; omega)) only [rd_I_mk, rd_R_mk, rd_L_mk, rd_D_mk, kd_mk, wr_I_mk, cp_mk, gd_true, bd_ret, bd_thr, vl_none, vl_some, iN_add, iN_mul, iN_sub, iN_lt, iN_eq, iN_n, iN_m1, iN_pred, vp_iN, K0_le, nr_b0, nr_b1, m1_lt, lt_m1, iN_ne_m1, m1_ne_iN, not_lt_z, true_and, and_true, and_self, or_true, true_or, or_false, false_or, if_true, if_false, ↓reduceIte, eq_self, up_at, up_a, up_k, cp_c, cp_b, Nat.zero_add, Nat.add_zero, Nat.sub_zero, Nat.le_refl, Nat.add_sub_cancel, fu_at, fu_ne, iN_nz, n10_f, n01_f, ofN, qq_at_100, k110b, Nat.lt_irrefl, Nat.not_lt_zero, ne_eq, not_false_eq_true, not_true_eq_false, nf_Z, nf_K, nf_Ka, nf_R, nf_Rk, nf_Ra, ltz0, le16, lt2, hk, hz]
theorem k_0 (hz : tZ τ = p + 1) (h70 : 70 ≤ p) (hk : tK τ p = (2, 0)) (h3 : I p 3 = iN 0) : ∃ I' τ', CC (d + 1) 0 [.ref p] (I, τ) = some (.inl none, (I', τ')) ∧ CN p 1 16 I τ I' τ' ∧ BD I' τ' p := by
  have e0 : (2 : Nat) < 200 := by omega
  refine ⟨up_2 (nwI τ I) p 1 (iN 0), nf τ (102, 16) 16 p 0, ?_, ⟨?_, ?_, fun a ha hx => ⟨?_, fun k => ?_⟩, fun a ha => ?_⟩, ?_, ?_, ?_, ?_, ?_, fun i => ⟨0, by omega, ?_⟩⟩
  · rw [c_0, b_0_0]
    simp (disch := first | omega | (simp only [nf_Z, uR_Z, nT_Z]; omega)) only [rd_I_mk, rd_R_mk, rd_L_mk, rd_D_mk, kd_mk, wr_I_mk, cp_mk, gd_true, bd_ret, bd_thr, vl_none, vl_some, iN_add, iN_mul, iN_sub, iN_lt, iN_eq, iN_n, iN_m1, iN_pred, vp_iN, K0_le, nr_b0, nr_b1, m1_lt, lt_m1, iN_ne_m1, m1_ne_iN, not_lt_z, true_and, and_true, and_self, or_true, true_or, or_false, false_or, if_true, if_false, ↓reduceIte, eq_self, up_at, up_a, up_k, cp_c, cp_b, Nat.zero_add, Nat.add_zero, Nat.sub_zero, Nat.le_refl, Nat.add_sub_cancel, fu_at, fu_ne, iN_nz, n10_f, n01_f, ofN, qq_at_100, k110b, Nat.lt_irrefl, Nat.not_lt_zero, ne_eq, not_false_eq_true, not_true_eq_false, nf_K, nf_Ka, nf_R, nf_Rk, nf_Ra, nT_Ko, nw_mk, s_mk, u_mk, nf_mk, ltz0, le16, lt2, hk, e0, c_1, b_1_0, b_1_7, b_1_8, nk_y0, b_1_11, b_0_3]
  · rw [nf_Z]
  · rw [nf_U]; omega
  · simp (disch := first | omega | (simp only [nf_Z, uR_Z, nT_Z]; omega)) only [rd_I_mk, rd_R_mk, rd_L_mk, rd_D_mk, kd_mk, wr_I_mk, cp_mk, gd_true, bd_ret, bd_thr, vl_none, vl_some, iN_add, iN_mul, iN_sub, iN_lt, iN_eq, iN_n, iN_m1, iN_pred, vp_iN, K0_le, nr_b0, nr_b1, m1_lt, lt_m1, iN_ne_m1, m1_ne_iN, not_lt_z, true_and, and_true, and_self, or_true, true_or, or_false, false_or, if_true, if_false, ↓reduceIte, eq_self, up_at, up_a, up_k, cp_c, cp_b, Nat.zero_add, Nat.add_zero, Nat.sub_zero, Nat.le_refl, Nat.add_sub_cancel, fu_at, fu_ne, iN_nz, n10_f, n01_f, ofN, qq_at_100, k110b, Nat.lt_irrefl, Nat.not_lt_zero, ne_eq, not_false_eq_true, not_true_eq_false, nf_Z, nf_K, nf_Ka, nf_R, nf_Rk, nf_Ra, ltz0, le16, lt2, nI_o, up_c]
  · simp (disch := first | omega | (simp only [nf_Z, uR_Z, nT_Z]; omega)) only [rd_I_mk, rd_R_mk, rd_L_mk, rd_D_mk, kd_mk, wr_I_mk, cp_mk, gd_true, bd_ret, bd_thr, vl_none, vl_some, iN_add, iN_mul, iN_sub, iN_lt, iN_eq, iN_n, iN_m1, iN_pred, vp_iN, K0_le, nr_b0, nr_b1, m1_lt, lt_m1, iN_ne_m1, m1_ne_iN, not_lt_z, true_and, and_true, and_self, or_true, true_or, or_false, false_or, if_true, if_false, ↓reduceIte, eq_self, up_at, up_a, up_k, cp_c, cp_b, Nat.zero_add, Nat.add_zero, Nat.sub_zero, Nat.le_refl, Nat.add_sub_cancel, fu_at, fu_ne, iN_nz, n10_f, n01_f, ofN, qq_at_100, k110b, Nat.lt_irrefl, Nat.not_lt_zero, ne_eq, not_false_eq_true, not_true_eq_false, nf_Z, nf_K, nf_Ka, nf_R, nf_Rk, nf_Ra, ltz0, le16, lt2]
  · simp (disch := first | omega | (simp only [nf_Z, uR_Z, nT_Z]; omega)) only [rd_I_mk, rd_R_mk, rd_L_mk, rd_D_mk, kd_mk, wr_I_mk, cp_mk, gd_true, bd_ret, bd_thr, vl_none, vl_some, iN_add, iN_mul, iN_sub, iN_lt, iN_eq, iN_n, iN_m1, iN_pred, vp_iN, K0_le, nr_b0, nr_b1, m1_lt, lt_m1, iN_ne_m1, m1_ne_iN, not_lt_z, true_and, and_true, and_self, or_true, true_or, or_false, false_or, if_true, if_false, ↓reduceIte, eq_self, up_at, up_a, up_k, cp_c, cp_b, Nat.zero_add, Nat.add_zero, Nat.sub_zero, Nat.le_refl, Nat.add_sub_cancel, fu_at, fu_ne, iN_nz, n10_f, n01_f, ofN, qq_at_100, k110b, Nat.lt_irrefl, Nat.not_lt_zero, ne_eq, not_false_eq_true, not_true_eq_false, nf_Z, nf_K, nf_Ka, nf_R, nf_Rk, nf_Ra, ltz0, le16, lt2]
  · simp (disch := first | omega | (simp only [nf_Z, uR_Z, nT_Z]; omega)) only [rd_I_mk, rd_R_mk, rd_L_mk, rd_D_mk, kd_mk, wr_I_mk, cp_mk, gd_true, bd_ret, bd_thr, vl_none, vl_some, iN_add, iN_mul, iN_sub, iN_lt, iN_eq, iN_n, iN_m1, iN_pred, vp_iN, K0_le, nr_b0, nr_b1, m1_lt, lt_m1, iN_ne_m1, m1_ne_iN, not_lt_z, true_and, and_true, and_self, or_true, true_or, or_false, false_or, if_true, if_false, ↓reduceIte, eq_self, up_at, up_a, up_k, cp_c, cp_b, Nat.zero_add, Nat.add_zero, Nat.sub_zero, Nat.le_refl, Nat.add_sub_cancel, fu_at, fu_ne, iN_nz, n10_f, n01_f, ofN, qq_at_100, k110b, Nat.lt_irrefl, Nat.not_lt_zero, ne_eq, not_false_eq_true, not_true_eq_false, nf_Z, nf_K, nf_Ka, nf_R, nf_Rk, nf_Ra, ltz0, le16, lt2, hk]
  · exact up_at
  · rw [up_k (by omega), nI_k (by omega)]; exact h3
  · simp (disch := first | omega | (simp only [nf_Z, uR_Z, nT_Z]; omega)) only [rd_I_mk, rd_R_mk, rd_L_mk, rd_D_mk, kd_mk, wr_I_mk, cp_mk, gd_true, bd_ret, bd_thr, vl_none, vl_some, iN_add, iN_mul, iN_sub, iN_lt, iN_eq, iN_n, iN_m1, iN_pred, vp_iN, K0_le, nr_b0, nr_b1, m1_lt, lt_m1, iN_ne_m1, m1_ne_iN, not_lt_z, true_and, and_true, and_self, or_true, true_or, or_false, false_or, if_true, if_false, ↓reduceIte, eq_self, up_at, up_a, up_k, cp_c, cp_b, Nat.zero_add, Nat.add_zero, Nat.sub_zero, Nat.le_refl, Nat.add_sub_cancel, fu_at, fu_ne, iN_nz, n10_f, n01_f, ofN, qq_at_100, k110b, Nat.lt_irrefl, Nat.not_lt_zero, ne_eq, not_false_eq_true, not_true_eq_false, nf_Z, nf_K, nf_Ka, nf_R, nf_Rk, nf_Ra, ltz0, le16, lt2, hz]
  · simp (disch := first | omega | (simp only [nf_Z, uR_Z, nT_Z]; omega)) only [rd_I_mk, rd_R_mk, rd_L_mk, rd_D_mk, kd_mk, wr_I_mk, cp_mk, gd_true, bd_ret, bd_thr, vl_none, vl_some, iN_add, iN_mul, iN_sub, iN_lt, iN_eq, iN_n, iN_m1, iN_pred, vp_iN, K0_le, nr_b0, nr_b1, m1_lt, lt_m1, iN_ne_m1, m1_ne_iN, not_lt_z, true_and, and_true, and_self, or_true, true_or, or_false, false_or, if_true, if_false, ↓reduceIte, eq_self, up_at, up_a, up_k, cp_c, cp_b, Nat.zero_add, Nat.add_zero, Nat.sub_zero, Nat.le_refl, Nat.add_sub_cancel, fu_at, fu_ne, iN_nz, n10_f, n01_f, ofN, qq_at_100, k110b, Nat.lt_irrefl, Nat.not_lt_zero, ne_eq, not_false_eq_true, not_true_eq_false, nf_Z, nf_K, nf_Ka, nf_R, nf_Rk, nf_Ra, ltz0, le16, lt2]
  · rw [up_c (by omega), nI_z (by omega)]
theorem k_110 (hz : tZ τ = p + 1) (h70 : 70 ≤ p) (hk : tK τ p = (10, 0)) : ∃ I' τ', CC d 110 [.ref p] (I, τ) = some (.inl none, (I', τ')) ∧ CN p 23 1400 I τ I' τ' ∧ L_T τ' p := by
  have e0 : (10 : Nat) < 200 := by omega
  obtain ⟨m1, m2, m3, m4⟩ := CN_tab (I := I) (τ := τ) (n := 21) (m := 61) (x := p) (a := p + 1) hz.symm
  generalize hJ : nwN (nT τ (110, 21) 21) (nwI τ I) 21 = J at *
  generalize hρ : grR (nTN (nT τ (110, 21) 21) (100, 61) 21 (21 * 61)) (p + 1) 21 = ρ at *
  have z1 : tZ ρ = p + 23 := by rw [m1.1]; omega
  have k1 : tK ρ p = (10, 0) := (m1.2.2.2 p (by omega)).trans hk
  have b1 := CN_tr m1 (CN_R (I := J) (τ := ρ) (x := p) (k := 0) (v := p + 1)) (Or.inl rfl)
  have b2 : CN p (1 + 0) (21 + 0) J (uR ρ p 0 (p + 1)) (nwI (uR ρ p 0 (p + 1)) J) (nf (uR ρ p 0 (p + 1)) (105, 21) 21 p 1) := CN_tr CN_new CN_R (Or.inl rfl)
  refine ⟨nwI (uR ρ p 0 (p + 1)) J, nf (uR ρ p 0 (p + 1)) (105, 21) 21 p 1, ?_, CN_le (CN_tr b1 b2 (Or.inl rfl)) (by omega), ⟨h70, ?_, ?_, ?_, ?_, fun w hw => ?_, fun w hw => ?_, ?_⟩⟩
  · have z0 : tZ (uR ρ p 0 (p + 1)) = p + 23 := z1
    rw [c_110, b_110_0]
    simp (disch := omega) only [kd_mk, hk, e0, lt2, iN_n, ltz0, le16, not_false_eq_true, and_self, gd_true, nwN_mk, gr_mk, s_mk, hz, b_110_6]
    have hJ1 : nwN (nT τ (110, 21) 21) (nwN τ I 1) 21 = J := hJ
    have hρ1 : grR (nTN (nTN τ (110, 21) 1 21) (100, 61) 21 (21 * 61)) (p + 1) 21 = ρ := hρ
    have hJ2 : nwN (nTN τ (110, 21) 1 21) (nwN τ I 1) 21 = J := hJ
    rw [hJ2, hρ1]
    simp (disch := omega) only [kd_mk, k1, K0_le, and_self, gd_true, u_mk, b_110_7, iN_n, ltz0, le16, not_false_eq_true, nw_mk, s_mk, b_110_10, nT_Ko, uR_K, uR_Z, z0, b_110_11, z1]
    rw [← z0, nf_mk]
  · rw [nf_K (by rw [uR_Z]; omega), uR_K]; exact k1
  · rw [nf_Rk (by omega) (by rw [uR_Z]; omega), uR_at]
  · rw [nf_R, uR_Z, z1]
  · rw [nf_K (by rw [uR_Z]; omega), uR_K]; exact m2
  · rw [nf_Ra (by omega) (by rw [uR_Z]; omega), uR_a (by omega), m3 w hw]
  · rw [nf_K (by rw [uR_Z]; omega), uR_K]
    have := m4 w hw
    have e : p + 2 + w = p + 1 + 1 + w := by omega
    rw [e]; exact this
  · rw [nf_Ka (by rw [uR_Z]; omega)]
theorem k_44 (hz : tZ τ = p + 1) (h70 : 70 ≤ p) (hk : tK τ p = (4, 0)) : ∃ I' τ', CC (d + 2) 44 [.ref p] (I, τ) = some (.inl none, (I', τ')) ∧ CN p 137 2000 I τ I' τ' ∧ L_H τ' p ∧ R_H I' p [] := by
  have e0 : (4 : Nat) < 200 := by omega
  have e8 : (8 : Nat) < 200 := by omega
  have q8 : qq_nf 8 ≤ 20 := by decide
  have c0 : CN p (1 + 0) (8 + 0) I τ (nwI τ I) (nf τ (111, 8) 8 p 0) := CN_tr CN_new CN_R (Or.inl rfl)
  have c1 := CN_tr (CN_tr c0 (CN_I (x := p) (k := 1) (v := iN 0)) (Or.inl rfl)) (CN_I (x := p) (k := 2) (v := iN 0)) (Or.inl rfl)
  have lp : ∀ n i (J : qq_I) (ρ : qq_R), i + n = 8 → CN p (1 + 17 * i) (8 + 220 * i) I τ J ρ → tK ρ (p + 1) = (111, 8) → tR ρ p 0 = p + 1 → (∀ j, j < i → tR ρ (p + 1) j = p + 2 + 17 * j) → (∀ j, j < i → L_R ρ (p + 2 + 17 * j)) → J p 1 = iN 0 → J p 2 = iN 0 →
      ∃ I' τ', RR (d + 2) 44 14 [some (.ref p), some (.int (iN i))] [] (J, ρ) = some (.inl none, (I', τ')) ∧ CN p 137 2000 I τ I' τ' ∧ L_H τ' p ∧ R_H I' p [] := by
    intro n
    induction n with
    | zero =>
      intro i J ρ hi hC k1 f0 f1 fl j1 j2
      have hi : i = 8 := hi
      subst hi
      refine ⟨J, ρ, ?_, CN_le hC (by omega), ⟨h70, (hC.2.2.2 p (by omega)).trans hk, f0, k1, f1, fl⟩, 0, by omega, j1, j2, Nat.zero_le _, fun i hi => absurd hi (Nat.not_lt_zero _)⟩
      rw [b_44_14]
      simp (disch := omega) only [rd_I_mk, rd_R_mk, rd_L_mk, rd_D_mk, kd_mk, wr_I_mk, cp_mk, gd_true, bd_ret, bd_thr, vl_none, vl_some, iN_add, iN_mul, iN_sub, iN_lt, iN_eq, iN_n, iN_m1, iN_pred, vp_iN, K0_le, nr_b0, nr_b1, m1_lt, lt_m1, iN_ne_m1, m1_ne_iN, not_lt_z, true_and, and_true, and_self, or_true, true_or, or_false, false_or, if_true, if_false, ↓reduceIte, eq_self, up_at, up_a, up_k, cp_c, cp_b, Nat.zero_add, Nat.add_zero, Nat.sub_zero, Nat.le_refl, Nat.add_sub_cancel, fu_at, fu_ne, iN_nz, n10_f, n01_f, ofN, qq_at_100, k110b, Nat.lt_irrefl, Nat.not_lt_zero, ne_eq, not_false_eq_true, not_true_eq_false, Nat.lt_irrefl]
    | succ n ih =>
      intro i J ρ hi hC k1 f0 f1 fl j1 j2
      have e : i < 8 := by omega
      have zr : tZ ρ = p + 2 + 17 * i := by rw [hC.1]; omega
      have kp : tK ρ p = (4, 0) := (hC.2.2.2 p (by omega)).trans hk
      have a1 : tK (nT ρ (8, 0) (qq_nf 8)) (p + 2 + 17 * i) = (8, 0) := by rw [← zr]; exact nT_K
      obtain ⟨J1, ρ1, s1, n1, l1, r1⟩ := k_74 (d := d) (I := nwI ρ J) (τ := nT ρ (8, 0) (qq_nf 8)) (b := p + 2 + 17 * i) (by rw [nT_Z]; omega) (by omega) a1
      obtain ⟨n2, n3, n4, n5, n6, n7⟩ := CN_fld (x := p + 1) (k := i) zr (by omega) n1
      have n2z := n2.1
      have k81 : tK ρ1 (p + 2 + 17 * i) = (8, 0) := l1.2.1
      have hpx := n1.2.2.1 p (by rw [nT_Z]; omega) (by omega)
      obtain ⟨I', τ', t1, t2⟩ := ih (i + 1) J1 (uR ρ1 (p + 1) i (p + 2 + 17 * i)) (by omega) (by
          have := CN_tr hC n2 (Or.inr (by omega))
          refine ⟨by have := this.1; omega, by have := this.2.1; omega, this.2.2⟩) (by rw [uR_K, n7]; exact k1) (by rw [uR_a (by omega), hpx.2 0, nT_Ro (by omega)]; exact f0) (fun j hj => by
          by_cases y : j = i
          · subst y; exact n4
          · rw [n3 j y]; exact f1 j (by omega)) (fun j hj => by
          by_cases y : j = i
          · subst y; exact L_R_T l1 n6
          · exact L_R_T (fl j (by omega)) (CN_Tr n2 (by omega) (by omega))) (by rw [hpx.1, nI_o (by omega)]; exact j1) (by rw [hpx.1, nI_o (by omega)]; exact j2)
      refine ⟨I', τ', ?_, t2⟩
      have s1' : CC (d + 1) 74 [.ref (p + 2 + 17 * i)] (nwI ρ J, nT ρ (8, 0) (qq_nf 8)) = some (.inl none, (J1, ρ1)) := s1
      have k1r : tK ρ1 (p + 1) = (111, 8) := n7.trans k1
      have or1 : ((((111 : Nat) = 111 ∧ (8 : Nat) = 8) ∨ ((111 : Nat) = 112 ∧ (8 : Nat) = 1)) : Prop) = True := eq_true (Or.inl ⟨rfl, rfl⟩)
      rw [b_44_14]
      simp (disch := omega) only [iN_lt, e, if_true, kd_mk, kp, gd_true, rd_R_mk, f0, nw_mk, s_mk, zr, b_44_21, a1, e8, lt2, s1', bd_ret, vl_none, b_44_23, k1r, k81, or1, true_or, vp_iN, K0_le, and_self, true_and, and_true, iN_n, u_mk, b_44_24, iN_add]
      exact t1
  obtain ⟨I', τ', t1, t2⟩ := lp 8 0 (up_2 (up_2 (nwI τ I) p 1 (iN 0)) p 2 (iN 0)) (nf τ (111, 8) 8 p 0) rfl (CN_le c1 (by omega)) (by rw [nf_Ka (by omega)]) (by rw [nf_R, hz]) (fun j hj => absurd hj (Nat.not_lt_zero _)) (fun j hj => absurd hj (Nat.not_lt_zero _)) (by rw [up_k (by omega), up_at]) up_at
  refine ⟨I', τ', ?_, t2⟩
  rw [c_44, b_44_0]
  simp (disch := first | omega | (simp only [nf_Z, uR_Z, nT_Z]; omega)) only [rd_I_mk, rd_R_mk, rd_L_mk, rd_D_mk, kd_mk, wr_I_mk, cp_mk, gd_true, bd_ret, bd_thr, vl_none, vl_some, iN_add, iN_mul, iN_sub, iN_lt, iN_eq, iN_n, iN_m1, iN_pred, vp_iN, K0_le, nr_b0, nr_b1, m1_lt, lt_m1, iN_ne_m1, m1_ne_iN, not_lt_z, true_and, and_true, and_self, or_true, true_or, or_false, false_or, if_true, if_false, ↓reduceIte, eq_self, up_at, up_a, up_k, cp_c, cp_b, Nat.zero_add, Nat.add_zero, Nat.sub_zero, Nat.le_refl, Nat.add_sub_cancel, fu_at, fu_ne, iN_nz, n10_f, n01_f, ofN, qq_at_100, k110b, Nat.lt_irrefl, Nat.not_lt_zero, ne_eq, not_false_eq_true, not_true_eq_false, nf_K, nf_Ka, nf_R, nf_Rk, nf_Ra, nT_Ko, nw_mk, s_mk, u_mk, nf_mk, ltz0, le16, lt2, hk, e0, b_44_5, b_44_6, b_44_9, b_44_12]
  exact t1
theorem k_97 (hz : tZ τ = p + 1) (h70 : 70 ≤ p) (hk : tK τ p = (9, 0)) : ∃ I' τ', CC (d + 2) 97 [.ref p] (I, τ) = some (.inl none, (I', τ')) ∧ CN p 15 200 I τ I' τ' ∧ L_S τ' p ∧ BD I' τ' (p + 1) := by
  have e0 : (9 : Nat) < 200 := by omega
  have e2 : (2 : Nat) < 200 := by omega
  have q2 : qq_nf 2 ≤ 20 := by decide
  have a1 : tK (nT τ (2, 0) (qq_nf 2)) (p + 1) = (2, 0) := by rw [← hz]; exact nT_K
  obtain ⟨I1, τ1, s1, n1, l1⟩ := k_0 (d := d) (I := nwI τ I) (τ := nT τ (2, 0) (qq_nf 2)) (p := p + 1) (by rw [nT_Z]; omega) (by omega) a1 (nI_z hz.symm)
  obtain ⟨c1, c2, c3, c4, c5, c6⟩ := CN_fld (x := p) (k := 0) hz (by omega) n1
  have z1 : tZ τ1 = p + 3 := by have := c1.1; rw [uR_Z] at this; omega
  have c1' := c1
  generalize hτ2 : uR τ1 p 0 (p + 1) = τ2 at *
  have z2 : tZ τ2 = p + 3 := by rw [← hτ2]; exact z1
  have k2 : tK τ2 p = (9, 0) := by rw [← hτ2, uR_K, c6]; exact hk
  have d1 : CN p (1 + 0) (11 + 0) I1 τ2 (nwI τ2 I1) (nf τ2 (112, 11) 11 p 1) := CN_tr CN_new CN_R (Or.inl rfl)
  have z3 : tZ (nf τ2 (112, 11) 11 p 1) = p + 4 := by rw [nf_Z, z2]
  obtain ⟨m1, m2, m3, m4⟩ := CN_tab (I := nwI τ2 I1) (τ := nf τ2 (112, 11) 11 p 1) (n := 11) (m := 4) (x := p) (a := p + 4) z3.symm
  have k3 : tK (nf τ2 (112, 11) 11 p 1) p = (9, 0) := by rw [nf_K (by omega)]; exact k2
  generalize hτ3 : nf τ2 (112, 11) 11 p 1 = τ3 at *
  generalize hJ3 : nwI τ2 I1 = J3 at *
  generalize hJ : nwN (nT τ3 (110, 11) 11) (nwI τ3 J3) 11 = J at *
  generalize hρ : grR (nTN (nT τ3 (110, 11) 11) (100, 4) 11 (11 * 4)) (p + 4) 11 = ρ at *
  have k4 : tK ρ p = (9, 0) := (m1.2.2.2 p (by omega)).trans k3
  have hall := CN_tr (CN_tr (CN_tr (CN_tr c1 d1 (Or.inl rfl)) m1 (Or.inl rfl)) (CN_R (I := J) (x := p) (k := 2) (v := p + 4)) (Or.inl rfl)) (CN_tr (CN_tr (CN_I (x := p) (k := 3) (v := iN 0)) (CN_I (x := p) (k := 4) (v := iN 0)) (Or.inl rfl)) (CN_I (x := p) (k := 5) (v := iN 0)) (Or.inl rfl)) (Or.inl rfl)
  have rest : CN p (1 + 0 + (1 + 11)) (11 + 0 + (11 + 11 * 4)) I1 τ2 J ρ := CN_tr d1 m1 (Or.inl rfl)
  have rp3 : ∀ k, tR ρ p k = tR τ3 p k := fun k => by
    rw [← hρ, grR_o (by omega), nTN_R (by rw [nT_Z]; omega), nT_Ro (by omega)]
  refine ⟨up_2 (up_2 (up_2 J p 3 (iN 0)) p 4 (iN 0)) p 5 (iN 0), uR ρ p 2 (p + 4), ?_, ⟨by have := hall.1; omega, by have := hall.2.1; omega, hall.2.2⟩, ⟨h70, ?_, ?_, ?_, ?_, ?_, ?_, fun i hi => ?_, fun i hi => ?_⟩, ?_⟩
  · have s1' : CC (d + 1) 0 [.ref (p + 1)] (nwI τ I, nT τ (2, 0) (qq_nf 2)) = some (.inl none, (I1, τ1)) := s1
    have hk1 : tK τ1 p = (9, 0) := c6.trans hk
    have n11 : nT τ2 (112, 11) 11 = nTN τ2 (112, 11) 1 11 := rfl
    rw [c_97, b_97_0]
    simp (disch := omega) only [kd_mk, hk, e0, lt2, gd_true, nw_mk, s_mk, hz, b_97_4, a1, e2, s1', bd_ret, vl_none, b_97_6, hk1, K0_le, and_self, true_and, and_true, u_mk, hτ2, b_97_7, iN_n, ltz0, le16, not_false_eq_true, z2, b_97_10, nT_Ko, k2]
    have e3 : uR (nT τ2 (112, 11) 11) p 1 (p + 3) = τ3 := by rw [← hτ3, ← z2]; rfl
    rw [e3, hJ3, b_97_11]
    simp (disch := omega) only [iN_n, ltz0, le16, not_false_eq_true, and_self, gd_true, nwN_mk, gr_mk, s_mk, z3, b_97_15]
    have hJ2 : nwN (nTN τ3 (110, 11) 1 11) (nwN τ3 J3 1) 11 = J := hJ
    have hρ1 : grR (nTN (nTN τ3 (110, 11) 1 11) (100, 4) 11 (11 * 4)) (p + 4) 11 = ρ := hρ
    rw [hJ2, hρ1]
    simp (disch := omega) only [kd_mk, k4, K0_le, and_self, gd_true, u_mk, b_97_16, uR_K, wr_I_mk, b_97_19, b_97_22, b_97_25]
  · rw [uR_K]; exact k4
  · rw [uR_k (by omega), rp3, ← hτ3, nf_Rk (by omega) (by omega)]; exact c3
  · rw [uR_k (by omega), rp3, ← hτ3, nf_R, z2]
  · exact uR_at
  · rw [uR_K, m1.2.2.2 (p + 3) (by omega), ← hτ3, nf_Ka (by omega)]
  · rw [uR_K]; exact m2
  · rw [uR_a (by omega), m3 i hi]
  · rw [uR_K]
    have := m4 i hi
    have e : p + 5 + i = p + 4 + 1 + i := by omega
    rw [e]; exact this
  · refine BD_T l1 (fun a h1 h2 => ?_) ?_ ?_
    · have g := rest.2.2.1 a (by omega) (by omega)
      have g2 := rest.2.2.2 a (by omega)
      refine ⟨by rw [uR_K, g2, ← hτ2, uR_K], fun k => by rw [uR_a (by omega), g.2 k, ← hτ2, uR_a (by omega)]⟩
    · rw [up_c (by omega), up_c (by omega), up_c (by omega)]
      exact (rest.2.2.1 (p + 1) (by omega) (by omega)).1
    · rw [up_c (by omega), up_c (by omega), up_c (by omega)]
      exact (rest.2.2.1 (p + 1 + 1) (by omega) (by omega)).1
/-- a chancery as it is new -/
def CF (I : qq_I) (τ : qq_R) (c : Nat) : Prop := L_C τ c ∧ R_R I (c + 1) S0s ∧ R_H I (c + 52) [] ∧ I c 3 = iN 0 ∧ I c 10 = m1 ∧ I c 11 = m1 ∧ I c 12 = iN 45 ∧ BD I τ (c + 221) ∧ BD I τ (c + 236)
theorem CF_T {I I' : qq_I} {τ τ' : qq_R} {c : Nat} (h : CF I τ c) (hT : Tr c 238 τ τ') (hI : ∀ a, c ≤ a → a < c + 238 → I' a = I a) : CF I' τ' c := by
  obtain ⟨a1, a2, a3, a4, a5, a6, a7, a8, a9⟩ := h
  have ec := hI c (by omega) (by omega)
  exact ⟨L_C_T a1 hT, R_R_same a2 (fun a _ _ => hI a (by omega) (by omega)), R_H_same a3 (fun a _ _ => hI a (by omega) (by omega)), by rw [ec]; exact a4, by rw [ec]; exact a5, by rw [ec]; exact a6, by rw [ec]; exact a7, BD_T a8 (Tr_wd hT (by omega) (by omega)) (hI _ (by omega) (by omega)) (hI _ (by omega) (by omega)), BD_T a9 (Tr_wd hT (by omega) (by omega)) (hI _ (by omega) (by omega)) (hI _ (by omega) (by omega))⟩
def C0s : sC := (S0s, [], none, [], [], 0, 0, 45)
theorem BD_B {s Z : Nat} (h : BD I τ s) (h70 : 70 ≤ s) (hs : s + 2 ≤ Z) (hZ : Z ≤ tZ τ) : R_B I τ s Z [] := by
  obtain ⟨a1, a2, a3, a4, a5, a6⟩ := h
  exact ⟨h70, by omega, hZ, a1, a2, a3, s + 1, 16, a4, a5, Nat.zero_le _, Nat.le_refl _, by omega, Or.inl rfl, by omega, fun i _ => a6 i, fun i hi => absurd hi (Nat.not_lt_zero _)⟩
theorem noT {P : sS → Prop} : ∀ T, g_Z C0s = some T → P T := fun T hT => by
  have hT2 : (none : Option sS) = some T := hT
  exact absurd hT2 (by simp)
theorem CF_C {c Z : Nat} (h : CF I τ c) (hc : c + 238 ≤ Z) (hZ : Z ≤ tZ τ) : R_C I τ c Z 0 C0s := by
  obtain ⟨a1, a2, a3, a4, a5, a6, a7, a8, a9⟩ := h
  have h70 := a1.1
  refine ⟨a1, a2, wS_0, a3, fun T hT => absurd hT List.not_mem_nil, hc, a4, noT, a5, a6, a7, ⟨fun _ => rfl, fun _ => rfl⟩, by decide, Nat.zero_le _, Nat.zero_le _, BD_B a8 (by omega) (by omega) hZ, Nat.zero_le _, fun x hx => absurd hx List.not_mem_nil, BD_B a9 (by omega) (by omega) hZ, Nat.zero_le _, fun x hx => absurd hx List.not_mem_nil, ?_⟩
  rw [a8.2.2.2.1, a9.2.2.2.1]
  omega
theorem h129_0 {c z : Nat} (hz : tZ τ = z) (h70 : 70 ≤ c) (hcz : c < z) (hk : tK τ c = (12, 0)) : ∃ I' τ', RR (d + 3) 129 0 [some (.ref c)] [] (I, τ) = RR (d + 3) 129 7 [some (.ref c)] [] (I', τ') ∧ CN c 17 240 I τ I' τ' ∧ (∀ j, j ≠ 0 → tR τ' c j = tR τ c j) ∧ tR τ' c 0 = z ∧ I' c = I c ∧ tK τ' c = (12, 0) ∧ L_R τ' z ∧ R_R I' z S0s := by
  have e : (8 : Nat) < 200 := by omega
  have e12 : (12 : Nat) < 200 := by omega
  have q : qq_nf 8 ≤ 20 := by decide
  have ak : tK (nT τ (8, 0) (qq_nf 8)) z = (8, 0) := by rw [← hz]; exact nT_K
  obtain ⟨I1, τ1, s1, n1, l, r⟩ := k_74 (d := d + 1) (I := nwI τ I) (τ := nT τ (8, 0) (qq_nf 8)) (b := z) (by rw [nT_Z, hz]) (by omega) ak
  obtain ⟨d1, ra, rb, ri, rt, rk⟩ := CN_fld (x := c) (k := 0) (τ := τ) (I := I) hz hcz n1
  have hk1 : tK τ1 c = (12, 0) := rk.trans hk
  refine ⟨I1, uR τ1 c 0 z, ?_, ⟨d1.1.trans (by omega), Nat.le_trans d1.2.1 (Nat.add_le_add_left (Nat.le_trans (Nat.add_le_add_right q _) (Nat.le_of_ble_eq_true rfl)) _), d1.2.2⟩, ra, rb, ri, hk1, L_R_T l rt, r⟩
  rw [b_129_0]
  simp only [kd_mk, hk, e12, gd_true, nw_mk, s_mk, hz, b_129_4, ak, e, s1, bd_ret, vl_none, b_129_6, hk1, K0_le h70, and_self, u_mk]
theorem h129_1 {c z : Nat} (hz : tZ τ = z) (h70 : 70 ≤ c) (hcz : c < z) (hk : tK τ c = (12, 0)) : ∃ I' τ', RR (d + 3) 129 7 [some (.ref c)] [] (I, τ) = RR (d + 3) 129 12 [some (.ref c)] [] (I', τ') ∧ CN c 17 240 I τ I' τ' ∧ (∀ j, j ≠ 1 → tR τ' c j = tR τ c j) ∧ tR τ' c 1 = z ∧ I' c = I c ∧ tK τ' c = (12, 0) ∧ L_R τ' z ∧ R_R I' z S0s := by
  have e : (8 : Nat) < 200 := by omega
  have e12 : (12 : Nat) < 200 := by omega
  have q : qq_nf 8 ≤ 20 := by decide
  have ak : tK (nT τ (8, 0) (qq_nf 8)) z = (8, 0) := by rw [← hz]; exact nT_K
  obtain ⟨I1, τ1, s1, n1, l, r⟩ := k_74 (d := d + 1) (I := nwI τ I) (τ := nT τ (8, 0) (qq_nf 8)) (b := z) (by rw [nT_Z, hz]) (by omega) ak
  obtain ⟨d1, ra, rb, ri, rt, rk⟩ := CN_fld (x := c) (k := 1) (τ := τ) (I := I) hz hcz n1
  have hk1 : tK τ1 c = (12, 0) := rk.trans hk
  refine ⟨I1, uR τ1 c 1 z, ?_, ⟨d1.1.trans (by omega), Nat.le_trans d1.2.1 (Nat.add_le_add_left (Nat.le_trans (Nat.add_le_add_right q _) (Nat.le_of_ble_eq_true rfl)) _), d1.2.2⟩, ra, rb, ri, hk1, L_R_T l rt, r⟩
  rw [b_129_7]
  simp only [kd_mk, hk, e12, gd_true, nw_mk, s_mk, hz, b_129_9, ak, e, s1, bd_ret, vl_none, b_129_11, hk1, K0_le h70, and_self, u_mk]
theorem h129_2 {c z : Nat} (hz : tZ τ = z) (h70 : 70 ≤ c) (hcz : c < z) (hk : tK τ c = (12, 0)) : ∃ I' τ', RR (d + 3) 129 12 [some (.ref c)] [] (I, τ) = RR (d + 3) 129 17 [some (.ref c)] [] (I', τ') ∧ CN c 17 240 I τ I' τ' ∧ (∀ j, j ≠ 2 → tR τ' c j = tR τ c j) ∧ tR τ' c 2 = z ∧ I' c = I c ∧ tK τ' c = (12, 0) ∧ L_R τ' z ∧ R_R I' z S0s := by
  have e : (8 : Nat) < 200 := by omega
  have e12 : (12 : Nat) < 200 := by omega
  have q : qq_nf 8 ≤ 20 := by decide
  have ak : tK (nT τ (8, 0) (qq_nf 8)) z = (8, 0) := by rw [← hz]; exact nT_K
  obtain ⟨I1, τ1, s1, n1, l, r⟩ := k_74 (d := d + 1) (I := nwI τ I) (τ := nT τ (8, 0) (qq_nf 8)) (b := z) (by rw [nT_Z, hz]) (by omega) ak
  obtain ⟨d1, ra, rb, ri, rt, rk⟩ := CN_fld (x := c) (k := 2) (τ := τ) (I := I) hz hcz n1
  have hk1 : tK τ1 c = (12, 0) := rk.trans hk
  refine ⟨I1, uR τ1 c 2 z, ?_, ⟨d1.1.trans (by omega), Nat.le_trans d1.2.1 (Nat.add_le_add_left (Nat.le_trans (Nat.add_le_add_right q _) (Nat.le_of_ble_eq_true rfl)) _), d1.2.2⟩, ra, rb, ri, hk1, L_R_T l rt, r⟩
  rw [b_129_12]
  simp only [kd_mk, hk, e12, gd_true, nw_mk, s_mk, hz, b_129_14, ak, e, s1, bd_ret, vl_none, b_129_16, hk1, K0_le h70, and_self, u_mk]
theorem h129_4 {c z : Nat} (hz : tZ τ = z) (h70 : 70 ≤ c) (hcz : c < z) (hk : tK τ c = (12, 0)) : ∃ I' τ', RR (d + 3) 129 20 [some (.ref c)] [] (I, τ) = RR (d + 3) 129 25 [some (.ref c)] [] (I', τ') ∧ CN c 138 2040 I τ I' τ' ∧ (∀ j, j ≠ 4 → tR τ' c j = tR τ c j) ∧ tR τ' c 4 = z ∧ I' c = I c ∧ tK τ' c = (12, 0) ∧ L_H τ' z ∧ R_H I' z [] := by
  have e : (4 : Nat) < 200 := by omega
  have e12 : (12 : Nat) < 200 := by omega
  have q : qq_nf 4 ≤ 20 := by decide
  have ak : tK (nT τ (4, 0) (qq_nf 4)) z = (4, 0) := by rw [← hz]; exact nT_K
  obtain ⟨I1, τ1, s1, n1, l, r⟩ := k_44 (d := d) (I := nwI τ I) (τ := nT τ (4, 0) (qq_nf 4)) (p := z) (by rw [nT_Z, hz]) (by omega) ak
  obtain ⟨d1, ra, rb, ri, rt, rk⟩ := CN_fld (x := c) (k := 4) (τ := τ) (I := I) hz hcz n1
  have hk1 : tK τ1 c = (12, 0) := rk.trans hk
  refine ⟨I1, uR τ1 c 4 z, ?_, ⟨d1.1.trans (by omega), Nat.le_trans d1.2.1 (Nat.add_le_add_left (Nat.le_trans (Nat.add_le_add_right q _) (Nat.le_of_ble_eq_true rfl)) _), d1.2.2⟩, ra, rb, ri, hk1, L_H_T l rt, r⟩
  rw [b_129_20]
  simp only [kd_mk, hk, e12, gd_true, nw_mk, s_mk, hz, b_129_22, ak, e, s1, bd_ret, vl_none, b_129_24, hk1, K0_le h70, and_self, u_mk]
theorem h129_5 {c z : Nat} (hz : tZ τ = z) (h70 : 70 ≤ c) (hcz : c < z) (hk : tK τ c = (12, 0)) : ∃ I' τ', RR (d + 3) 129 25 [some (.ref c)] [] (I, τ) = RR (d + 3) 129 30 [some (.ref c)] [] (I', τ') ∧ CN c 3 40 I τ I' τ' ∧ (∀ j, j ≠ 5 → tR τ' c j = tR τ c j) ∧ tR τ' c 5 = z ∧ I' c = I c ∧ tK τ' c = (12, 0) ∧ L_L τ' z := by
  have e : (5 : Nat) < 200 := by omega
  have e12 : (12 : Nat) < 200 := by omega
  have q : qq_nf 5 ≤ 20 := by decide
  have ak : tK (nT τ (5, 0) (qq_nf 5)) z = (5, 0) := by rw [← hz]; exact nT_K
  obtain ⟨I1, τ1, s1, n1, l⟩ := k_48 (d := d + 2) (I := nwI τ I) (τ := nT τ (5, 0) (qq_nf 5)) (p := z) (by rw [nT_Z, hz]) (by omega) ak
  obtain ⟨d1, ra, rb, ri, rt, rk⟩ := CN_fld (x := c) (k := 5) (τ := τ) (I := I) hz hcz n1
  have hk1 : tK τ1 c = (12, 0) := rk.trans hk
  refine ⟨I1, uR τ1 c 5 z, ?_, ⟨d1.1.trans (by omega), Nat.le_trans d1.2.1 (Nat.add_le_add_left (Nat.le_trans (Nat.add_le_add_right q _) (Nat.le_of_ble_eq_true rfl)) _), d1.2.2⟩, ra, rb, ri, hk1, L_L_T l rt⟩
  rw [b_129_25]
  simp only [kd_mk, hk, e12, gd_true, nw_mk, s_mk, hz, b_129_27, ak, e, s1, bd_ret, vl_none, b_129_29, hk1, K0_le h70, and_self, u_mk]
theorem h129_6 {c z : Nat} (hz : tZ τ = z) (h70 : 70 ≤ c) (hcz : c < z) (hk : tK τ c = (12, 0)) : ∃ I' τ', RR (d + 3) 129 30 [some (.ref c)] [] (I, τ) = RR (d + 3) 129 35 [some (.ref c)] [] (I', τ') ∧ CN c 3 40 I τ I' τ' ∧ (∀ j, j ≠ 6 → tR τ' c j = tR τ c j) ∧ tR τ' c 6 = z ∧ I' c = I c ∧ tK τ' c = (12, 0) ∧ L_D τ' z := by
  have e : (3 : Nat) < 200 := by omega
  have e12 : (12 : Nat) < 200 := by omega
  have q : qq_nf 3 ≤ 20 := by decide
  have ak : tK (nT τ (3, 0) (qq_nf 3)) z = (3, 0) := by rw [← hz]; exact nT_K
  obtain ⟨I1, τ1, s1, n1, l⟩ := k_36 (d := d + 2) (I := nwI τ I) (τ := nT τ (3, 0) (qq_nf 3)) (p := z) (by rw [nT_Z, hz]) (by omega) ak
  obtain ⟨d1, ra, rb, ri, rt, rk⟩ := CN_fld (x := c) (k := 6) (τ := τ) (I := I) hz hcz n1
  have hk1 : tK τ1 c = (12, 0) := rk.trans hk
  refine ⟨I1, uR τ1 c 6 z, ?_, ⟨d1.1.trans (by omega), Nat.le_trans d1.2.1 (Nat.add_le_add_left (Nat.le_trans (Nat.add_le_add_right q _) (Nat.le_of_ble_eq_true rfl)) _), d1.2.2⟩, ra, rb, ri, hk1, L_D_T l rt⟩
  rw [b_129_30]
  simp only [kd_mk, hk, e12, gd_true, nw_mk, s_mk, hz, b_129_32, ak, e, s1, bd_ret, vl_none, b_129_34, hk1, K0_le h70, and_self, u_mk]
theorem h129_7 {c z : Nat} (hz : tZ τ = z) (h70 : 70 ≤ c) (hcz : c < z) (hk : tK τ c = (12, 0)) : ∃ I' τ', RR (d + 3) 129 35 [some (.ref c)] [] (I, τ) = RR (d + 3) 129 40 [some (.ref c)] [] (I', τ') ∧ CN c 24 1440 I τ I' τ' ∧ (∀ j, j ≠ 7 → tR τ' c j = tR τ c j) ∧ tR τ' c 7 = z ∧ I' c = I c ∧ tK τ' c = (12, 0) ∧ L_T τ' z := by
  have e : (10 : Nat) < 200 := by omega
  have e12 : (12 : Nat) < 200 := by omega
  have q : qq_nf 10 ≤ 20 := by decide
  have ak : tK (nT τ (10, 0) (qq_nf 10)) z = (10, 0) := by rw [← hz]; exact nT_K
  obtain ⟨I1, τ1, s1, n1, l⟩ := k_110 (d := d + 2) (I := nwI τ I) (τ := nT τ (10, 0) (qq_nf 10)) (p := z) (by rw [nT_Z, hz]) (by omega) ak
  obtain ⟨d1, ra, rb, ri, rt, rk⟩ := CN_fld (x := c) (k := 7) (τ := τ) (I := I) hz hcz n1
  have hk1 : tK τ1 c = (12, 0) := rk.trans hk
  refine ⟨I1, uR τ1 c 7 z, ?_, ⟨d1.1.trans (by omega), Nat.le_trans d1.2.1 (Nat.add_le_add_left (Nat.le_trans (Nat.add_le_add_right q _) (Nat.le_of_ble_eq_true rfl)) _), d1.2.2⟩, ra, rb, ri, hk1, L_T_T l rt⟩
  rw [b_129_35]
  simp only [kd_mk, hk, e12, gd_true, nw_mk, s_mk, hz, b_129_37, ak, e, s1, bd_ret, vl_none, b_129_39, hk1, K0_le h70, and_self, u_mk]
theorem h129_8 {c z : Nat} (hz : tZ τ = z) (h70 : 70 ≤ c) (hcz : c < z) (hk : tK τ c = (12, 0)) : ∃ I' τ', RR (d + 3) 129 40 [some (.ref c)] [] (I, τ) = RR (d + 3) 129 45 [some (.ref c)] [] (I', τ') ∧ CN c 16 240 I τ I' τ' ∧ (∀ j, j ≠ 8 → tR τ' c j = tR τ c j) ∧ tR τ' c 8 = z ∧ I' c = I c ∧ tK τ' c = (12, 0) ∧ L_S τ' z ∧ BD I' τ' (z + 1) := by
  have e : (9 : Nat) < 200 := by omega
  have e12 : (12 : Nat) < 200 := by omega
  have q : qq_nf 9 ≤ 20 := by decide
  have ak : tK (nT τ (9, 0) (qq_nf 9)) z = (9, 0) := by rw [← hz]; exact nT_K
  obtain ⟨I1, τ1, s1, n1, l, r⟩ := k_97 (d := d) (I := nwI τ I) (τ := nT τ (9, 0) (qq_nf 9)) (p := z) (by rw [nT_Z, hz]) (by omega) ak
  obtain ⟨d1, ra, rb, ri, rt, rk⟩ := CN_fld (x := c) (k := 8) (τ := τ) (I := I) hz hcz n1
  have hk1 : tK τ1 c = (12, 0) := rk.trans hk
  refine ⟨I1, uR τ1 c 8 z, ?_, ⟨d1.1.trans (by omega), Nat.le_trans d1.2.1 (Nat.add_le_add_left (Nat.le_trans (Nat.add_le_add_right q _) (Nat.le_of_ble_eq_true rfl)) _), d1.2.2⟩, ra, rb, ri, hk1, L_S_T l (Tr_wd rt (by omega) (by omega)) rfl (Tr_wd rt (by omega) (by omega)), BD_T r (Tr_wd rt (by omega) (by omega)) rfl rfl⟩
  rw [b_129_40]
  simp only [kd_mk, hk, e12, gd_true, nw_mk, s_mk, hz, b_129_42, ak, e, s1, bd_ret, vl_none, b_129_44, hk1, K0_le h70, and_self, u_mk]
theorem h129_9 {c z : Nat} (hz : tZ τ = z) (h70 : 70 ≤ c) (hcz : c < z) (hk : tK τ c = (12, 0)) : ∃ I' τ', RR (d + 3) 129 45 [some (.ref c)] [] (I, τ) = RR (d + 3) 129 50 [some (.ref c)] [] (I', τ') ∧ CN c 2 40 I τ I' τ' ∧ (∀ j, j ≠ 9 → tR τ' c j = tR τ c j) ∧ tR τ' c 9 = z ∧ I' c = I c ∧ tK τ' c = (12, 0) ∧ BD I' τ' z := by
  have e : (2 : Nat) < 200 := by omega
  have e12 : (12 : Nat) < 200 := by omega
  have q : qq_nf 2 ≤ 20 := by decide
  have ak : tK (nT τ (2, 0) (qq_nf 2)) z = (2, 0) := by rw [← hz]; exact nT_K
  obtain ⟨I1, τ1, s1, n1, r⟩ := k_0 (d := d + 1) (I := nwI τ I) (τ := nT τ (2, 0) (qq_nf 2)) (p := z) (by rw [nT_Z, hz]) (by omega) ak (nI_z hz.symm)
  obtain ⟨d1, ra, rb, ri, rt, rk⟩ := CN_fld (x := c) (k := 9) (τ := τ) (I := I) hz hcz n1
  have hk1 : tK τ1 c = (12, 0) := rk.trans hk
  refine ⟨I1, uR τ1 c 9 z, ?_, ⟨d1.1.trans (by omega), Nat.le_trans d1.2.1 (Nat.add_le_add_left (Nat.le_trans (Nat.add_le_add_right q _) (Nat.le_of_ble_eq_true rfl)) _), d1.2.2⟩, ra, rb, ri, hk1, BD_T r rt rfl rfl⟩
  rw [b_129_45]
  simp only [kd_mk, hk, e12, gd_true, nw_mk, s_mk, hz, b_129_47, ak, e, s1, bd_ret, vl_none, b_129_49, hk1, K0_le h70, and_self, u_mk]
end C2
