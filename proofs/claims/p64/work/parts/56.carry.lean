/-! THE SCRIPT: commands carried out -/
def n1 (x : Int32) : Int32 := if x = m1 then iN 1 else x
def fo (k : Nat) (S : sS) (a b c e : Int32) : Nat :=
  if k = 0 then ft_ped S else if k = 1 then ft_arr S a b else if k = 2 then ft_sta S a b else if k = 3 then ft_hom S a b else if k = 4 then (if e = m1 then ft_wri S a b c else ft_fol S a b c e)
  else if k = 5 then ft_blk S a b else if k = 6 then ft_pay S a else if k = 7 then ft_hea S a else ft_nig (n1 a)
def oo (k : Nat) (S : sS) (a b c e : Int32) : sS :=
  if k = 0 then (o_ped S).2 else if k = 1 then (o_arr S a b).2 else if k = 2 then (o_sta S a b).2 else if k = 3 then (o_hom S a b).2 else if k = 4 then (if e = m1 then (o_wri S a b c).2 else (o_fol S a b c e).2)
  else if k = 5 then (o_blk S a b).2 else if k = 6 then (o_pay S a).2 else if k = 7 then (o_hea S a).2 else (o_nig S (n1 a)).2
section CA
variable {d : Nat} {I : qq_I} {τ : qq_R} {c B k : Nat} {S : sS}
theorem c_n1 {x : Int32} : CC d 206 [.int x] (I, τ) = some (.inl (some (.int (n1 x))), (I, τ)) := by
  rw [c_206, b_206_0]
  unfold n1
  by_cases z : x = m1
  · rw [if_pos z, if_pos z, b_206_6]
  · rw [if_neg z, if_neg z, b_206_6]
theorem sw204 : qq_sw (.tableswitch 152 1 8 #[48, 56, 66, 76, 86, 120, 130, 143]) (iN 0) = some 0 := by decide +kernel
theorem isF_ch {g : Nat} (h : isF g) : nr .char (iN g) = True := nr_ch (by rcases h with h | h | h | h | h | h <;> omega)
theorem c_ord (hK : KC I τ) (hk : k < 9) : CC d 35 [.ref (57 + k)] (I, τ) = some (.inl (some (.int (iN k))), (I, τ)) := by
  obtain ⟨-, -, -, a2, -⟩ := hK
  obtain ⟨b1, b2, b3, b4⟩ := a2 k hk
  rw [c_35, b_35_0]
  simp (disch := omega) only [rd_I_mk, rd_R_mk, rd_L_mk, rd_D_mk, kd_mk, wr_I_mk, cp_mk, gd_true, bd_ret, bd_thr, vl_none, vl_some, iN_add, iN_mul, iN_sub, iN_lt, iN_eq, iN_n, iN_m1, iN_pred, vp_iN, K0_le, nr_b0, nr_b1, m1_lt, lt_m1, iN_ne_m1, m1_ne_iN, not_lt_z, true_and, and_true, and_self, or_true, true_or, or_false, false_or, if_true, if_false, ↓reduceIte, eq_self, up_at, up_a, up_k, cp_c, cp_b, Nat.zero_add, Nat.add_zero, Nat.sub_zero, Nat.le_refl, Nat.add_sub_cancel, fu_at, fu_ne, iN_nz, n10_f, n01_f, ofN, qq_at_100, k110b, Nat.lt_irrefl, Nat.not_lt_zero, ne_eq, not_false_eq_true, not_true_eq_false, b2, b3]
theorem isF_fo {a b e f : Int32} : isF (fo k S a b e f) := by
  unfold fo
  split
  · exact isF_ped
  split
  · exact isF_arr
  split
  · exact isF_sta
  split
  · exact isF_hom
  split
  · split
    · exact isF_wri
    · exact isF_fol
  split
  · exact isF_blk
  split
  · exact isF_pay
  split
  · exact isF_hea
  · exact isF_nig
theorem c_faultOf (hL : L_C τ c) (hK : KC I τ) (hk : k < 9) (hR : R_R I (c + 18) S) (hw : wS B S) (a0 a1 a2 a3 : Int32) : ∃ I', CC (d + 39) 204 [.ref c, .ref (57 + k), .int a0, .int a1, .int a2, .int a3] (I, τ) = some (.inl (some (.int (iN (fo k S a0 a1 a2 a3)))), (I', τ)) ∧ Fr (c + 198) 21 I I' := by
  have q0 := c_ord (d := d + 38) hK hk
  obtain ⟨-, -, -, x2, x3, x4⟩ := hK
  obtain ⟨y1, y2, y3, y4⟩ := x2 k hk
  have x5 := x4 k hk
  have k12 := hL.2.1
  have e1 := hL.2.2.2.1
  have e7 := hL.2.2.2.2.2.2.2.2.1
  have hl := hL.2.2.2.2.2.2.2.2.2.2.2.2.1
  have ht := hL.2.2.2.2.2.2.2.2.2.2.2.2.2.2.2.2.2.1
  have k8 := hl.2.1
  have start : ∀ out, RR (d + 38 + 1) 204 4 [some (.ref c), some (.ref (57 + k)), some (.int a0), some (.int a1), some (.int a2), some (.int a3)] [.int (iN (if k < 8 then k + 1 else 0))] (I, τ) = out → CC (d + 39) 204 [.ref c, .ref (57 + k), .int a0, .int a1, .int a2, .int a3] (I, τ) = out := fun out ho => by
    rw [c_204, b_204_0]
    simp (disch := omega) only [rd_I_mk, rd_R_mk, rd_L_mk, rd_D_mk, kd_mk, wr_I_mk, cp_mk, gd_true, bd_ret, bd_thr, vl_none, vl_some, iN_add, iN_mul, iN_sub, iN_lt, iN_eq, iN_n, iN_m1, iN_pred, vp_iN, K0_le, nr_b0, nr_b1, m1_lt, lt_m1, iN_ne_m1, m1_ne_iN, not_lt_z, true_and, and_true, and_self, or_true, true_or, or_false, false_or, if_true, if_false, ↓reduceIte, eq_self, up_at, up_a, up_k, cp_c, cp_b, Nat.zero_add, Nat.add_zero, Nat.sub_zero, Nat.le_refl, Nat.add_sub_cancel, fu_at, fu_ne, iN_nz, n10_f, n01_f, ofN, qq_at_100, k110b, Nat.lt_irrefl, Nat.not_lt_zero, ne_eq, not_false_eq_true, not_true_eq_false, y2, q0, b_204_3, x3, x5]
    exact ho
  clear q0 x2 x3 x4 y1 y2 y3 y4 x5
  rcases (show k = 0 ∨ k = 1 ∨ k = 2 ∨ k = 3 ∨ k = 4 ∨ k = 5 ∨ k = 6 ∨ k = 7 ∨ k = 8 by omega) with rfl | rfl | rfl | rfl | rfl | rfl | rfl | rfl | rfl
  · have q := c_pedestalFault (d := d + 38) hl hR hw
    have hn : nr .char (iN (ft_ped S)) = True := isF_ch isF_ped
    have hfo : fo 0 S a0 a1 a2 a3 = ft_ped S := by unfold fo; simp only [Nat.reduceEqDiff, if_false, if_true]
    rw [hfo]
    refine ⟨I, start _ ?_, Fr_rf⟩
    rw [show (if 0 < 8 then 0 + 1 else 0) = 1 from rfl, s_204_4_1, b_204_5]
    simp (disch := omega) only [rd_I_mk, rd_R_mk, rd_L_mk, rd_D_mk, kd_mk, wr_I_mk, cp_mk, gd_true, bd_ret, bd_thr, vl_none, vl_some, iN_add, iN_mul, iN_sub, iN_lt, iN_eq, iN_n, iN_m1, iN_pred, vp_iN, K0_le, nr_b0, nr_b1, m1_lt, lt_m1, iN_ne_m1, m1_ne_iN, not_lt_z, true_and, and_true, and_self, or_true, true_or, or_false, false_or, if_true, if_false, ↓reduceIte, eq_self, up_at, up_a, up_k, cp_c, cp_b, Nat.zero_add, Nat.add_zero, Nat.sub_zero, Nat.le_refl, Nat.add_sub_cancel, fu_at, fu_ne, iN_nz, n10_f, n01_f, ofN, qq_at_100, k110b, Nat.lt_irrefl, Nat.not_lt_zero, ne_eq, not_false_eq_true, not_true_eq_false, k12, e1, k8, q, b_204_8, hn]
  · have q := c_arrowFault (d := d + 37) hl hR hw a0 a1
    have hn : nr .char (iN (ft_arr S a0 a1)) = True := isF_ch isF_arr
    have hfo : fo 1 S a0 a1 a2 a3 = ft_arr S a0 a1 := by unfold fo; simp only [Nat.reduceEqDiff, if_false, if_true]
    rw [hfo]
    refine ⟨I, start _ ?_, Fr_rf⟩
    rw [show (if 1 < 8 then 1 + 1 else 0) = 2 from rfl, s_204_4_2, b_204_9]
    simp (disch := omega) only [rd_I_mk, rd_R_mk, rd_L_mk, rd_D_mk, kd_mk, wr_I_mk, cp_mk, gd_true, bd_ret, bd_thr, vl_none, vl_some, iN_add, iN_mul, iN_sub, iN_lt, iN_eq, iN_n, iN_m1, iN_pred, vp_iN, K0_le, nr_b0, nr_b1, m1_lt, lt_m1, iN_ne_m1, m1_ne_iN, not_lt_z, true_and, and_true, and_self, or_true, true_or, or_false, false_or, if_true, if_false, ↓reduceIte, eq_self, up_at, up_a, up_k, cp_c, cp_b, Nat.zero_add, Nat.add_zero, Nat.sub_zero, Nat.le_refl, Nat.add_sub_cancel, fu_at, fu_ne, iN_nz, n10_f, n01_f, ofN, qq_at_100, k110b, Nat.lt_irrefl, Nat.not_lt_zero, ne_eq, not_false_eq_true, not_true_eq_false, k12, e1, k8, q, b_204_14, hn]
  · have q := c_statueFault (d := d + 37) hl hR hw a0 a1
    have hn : nr .char (iN (ft_sta S a0 a1)) = True := isF_ch isF_sta
    have hfo : fo 2 S a0 a1 a2 a3 = ft_sta S a0 a1 := by unfold fo; simp only [Nat.reduceEqDiff, if_false, if_true]
    rw [hfo]
    refine ⟨I, start _ ?_, Fr_rf⟩
    rw [show (if 2 < 8 then 2 + 1 else 0) = 3 from rfl, s_204_4_3, b_204_15]
    simp (disch := omega) only [rd_I_mk, rd_R_mk, rd_L_mk, rd_D_mk, kd_mk, wr_I_mk, cp_mk, gd_true, bd_ret, bd_thr, vl_none, vl_some, iN_add, iN_mul, iN_sub, iN_lt, iN_eq, iN_n, iN_m1, iN_pred, vp_iN, K0_le, nr_b0, nr_b1, m1_lt, lt_m1, iN_ne_m1, m1_ne_iN, not_lt_z, true_and, and_true, and_self, or_true, true_or, or_false, false_or, if_true, if_false, ↓reduceIte, eq_self, up_at, up_a, up_k, cp_c, cp_b, Nat.zero_add, Nat.add_zero, Nat.sub_zero, Nat.le_refl, Nat.add_sub_cancel, fu_at, fu_ne, iN_nz, n10_f, n01_f, ofN, qq_at_100, k110b, Nat.lt_irrefl, Nat.not_lt_zero, ne_eq, not_false_eq_true, not_true_eq_false, k12, e1, k8, q, b_204_20, hn]
  · have q := c_homeFault (d := d + 37) hl hR hw a0 a1
    have hn : nr .char (iN (ft_hom S a0 a1)) = True := isF_ch isF_hom
    have hfo : fo 3 S a0 a1 a2 a3 = ft_hom S a0 a1 := by unfold fo; simp only [Nat.reduceEqDiff, if_false, if_true]
    rw [hfo]
    refine ⟨I, start _ ?_, Fr_rf⟩
    rw [show (if 3 < 8 then 3 + 1 else 0) = 4 from rfl, s_204_4_4, b_204_21]
    simp (disch := omega) only [rd_I_mk, rd_R_mk, rd_L_mk, rd_D_mk, kd_mk, wr_I_mk, cp_mk, gd_true, bd_ret, bd_thr, vl_none, vl_some, iN_add, iN_mul, iN_sub, iN_lt, iN_eq, iN_n, iN_m1, iN_pred, vp_iN, K0_le, nr_b0, nr_b1, m1_lt, lt_m1, iN_ne_m1, m1_ne_iN, not_lt_z, true_and, and_true, and_self, or_true, true_or, or_false, false_or, if_true, if_false, ↓reduceIte, eq_self, up_at, up_a, up_k, cp_c, cp_b, Nat.zero_add, Nat.add_zero, Nat.sub_zero, Nat.le_refl, Nat.add_sub_cancel, fu_at, fu_ne, iN_nz, n10_f, n01_f, ofN, qq_at_100, k110b, Nat.lt_irrefl, Nat.not_lt_zero, ne_eq, not_false_eq_true, not_true_eq_false, k12, e1, k8, q, b_204_26, hn]
  · by_cases z : a3 = m1
    · have q := c_writFault (d := d + 36) hl hR hw a0 a1 a2
      have hn : nr .char (iN (ft_wri S a0 a1 a2)) = True := isF_ch isF_wri
      have hfo : fo 4 S a0 a1 a2 a3 = ft_wri S a0 a1 a2 := by unfold fo; simp only [z, Nat.reduceEqDiff, if_false, if_true]
      rw [hfo]
      refine ⟨I, start _ ?_, Fr_rf⟩
      rw [show (if 4 < 8 then 4 + 1 else 0) = 5 from rfl, s_204_4_5, b_204_27]
      simp (disch := omega) only [rd_I_mk, rd_R_mk, rd_L_mk, rd_D_mk, kd_mk, wr_I_mk, cp_mk, gd_true, bd_ret, bd_thr, vl_none, vl_some, iN_add, iN_mul, iN_sub, iN_lt, iN_eq, iN_n, iN_m1, iN_pred, vp_iN, K0_le, nr_b0, nr_b1, m1_lt, lt_m1, iN_ne_m1, m1_ne_iN, not_lt_z, true_and, and_true, and_self, or_true, true_or, or_false, false_or, if_true, if_false, ↓reduceIte, eq_self, up_at, up_a, up_k, cp_c, cp_b, Nat.zero_add, Nat.add_zero, Nat.sub_zero, Nat.le_refl, Nat.add_sub_cancel, fu_at, fu_ne, iN_nz, n10_f, n01_f, ofN, qq_at_100, k110b, Nat.lt_irrefl, Nat.not_lt_zero, ne_eq, not_false_eq_true, not_true_eq_false, z, k12, e1, k8, q, b_204_36, b_204_44, hn]
    · have q := c_followerFault (d := d + 36) hl hR hw a0 a1 a2 a3
      have hn : nr .char (iN (ft_fol S a0 a1 a2 a3)) = True := isF_ch isF_fol
      have hfo : fo 4 S a0 a1 a2 a3 = ft_fol S a0 a1 a2 a3 := by unfold fo; simp only [z, Nat.reduceEqDiff, if_false, if_true]
      rw [hfo]
      refine ⟨I, start _ ?_, Fr_rf⟩
      rw [show (if 4 < 8 then 4 + 1 else 0) = 5 from rfl, s_204_4_5, b_204_27]
      simp (disch := omega) only [rd_I_mk, rd_R_mk, rd_L_mk, rd_D_mk, kd_mk, wr_I_mk, cp_mk, gd_true, bd_ret, bd_thr, vl_none, vl_some, iN_add, iN_mul, iN_sub, iN_lt, iN_eq, iN_n, iN_m1, iN_pred, vp_iN, K0_le, nr_b0, nr_b1, m1_lt, lt_m1, iN_ne_m1, m1_ne_iN, not_lt_z, true_and, and_true, and_self, or_true, true_or, or_false, false_or, if_true, if_false, ↓reduceIte, eq_self, up_at, up_a, up_k, cp_c, cp_b, Nat.zero_add, Nat.add_zero, Nat.sub_zero, Nat.le_refl, Nat.add_sub_cancel, fu_at, fu_ne, iN_nz, n10_f, n01_f, ofN, qq_at_100, k110b, Nat.lt_irrefl, Nat.not_lt_zero, ne_eq, not_false_eq_true, not_true_eq_false, z, k12, e1, k8, q, b_204_44, hn]
  · have q := c_blockFault (d := d + 37) hl hR hw a0 a1
    have hn : nr .char (iN (ft_blk S a0 a1)) = True := isF_ch isF_blk
    have hfo : fo 5 S a0 a1 a2 a3 = ft_blk S a0 a1 := by unfold fo; simp only [Nat.reduceEqDiff, if_false, if_true]
    rw [hfo]
    refine ⟨I, start _ ?_, Fr_rf⟩
    rw [show (if 5 < 8 then 5 + 1 else 0) = 6 from rfl, s_204_4_6, b_204_45]
    simp (disch := omega) only [rd_I_mk, rd_R_mk, rd_L_mk, rd_D_mk, kd_mk, wr_I_mk, cp_mk, gd_true, bd_ret, bd_thr, vl_none, vl_some, iN_add, iN_mul, iN_sub, iN_lt, iN_eq, iN_n, iN_m1, iN_pred, vp_iN, K0_le, nr_b0, nr_b1, m1_lt, lt_m1, iN_ne_m1, m1_ne_iN, not_lt_z, true_and, and_true, and_self, or_true, true_or, or_false, false_or, if_true, if_false, ↓reduceIte, eq_self, up_at, up_a, up_k, cp_c, cp_b, Nat.zero_add, Nat.add_zero, Nat.sub_zero, Nat.le_refl, Nat.add_sub_cancel, fu_at, fu_ne, iN_nz, n10_f, n01_f, ofN, qq_at_100, k110b, Nat.lt_irrefl, Nat.not_lt_zero, ne_eq, not_false_eq_true, not_true_eq_false, k12, e1, k8, q, b_204_50, hn]
  · obtain ⟨J, q, q3⟩ := c_payFault (d := d + 36) hl ht (Or.inl (by omega)) hR hw a0
    have hn : nr .char (iN (ft_pay S a0)) = True := isF_ch isF_pay
    have hfo : fo 6 S a0 a1 a2 a3 = ft_pay S a0 := by unfold fo; simp only [Nat.reduceEqDiff, if_false, if_true]
    rw [hfo]
    refine ⟨J, start _ ?_, q3⟩
    rw [show (if 6 < 8 then 6 + 1 else 0) = 7 from rfl, s_204_4_7, b_204_51]
    simp (disch := omega) only [rd_I_mk, rd_R_mk, rd_L_mk, rd_D_mk, kd_mk, wr_I_mk, cp_mk, gd_true, bd_ret, bd_thr, vl_none, vl_some, iN_add, iN_mul, iN_sub, iN_lt, iN_eq, iN_n, iN_m1, iN_pred, vp_iN, K0_le, nr_b0, nr_b1, m1_lt, lt_m1, iN_ne_m1, m1_ne_iN, not_lt_z, true_and, and_true, and_self, or_true, true_or, or_false, false_or, if_true, if_false, ↓reduceIte, eq_self, up_at, up_a, up_k, cp_c, cp_b, Nat.zero_add, Nat.add_zero, Nat.sub_zero, Nat.le_refl, Nat.add_sub_cancel, fu_at, fu_ne, iN_nz, n10_f, n01_f, ofN, qq_at_100, k110b, Nat.lt_irrefl, Nat.not_lt_zero, ne_eq, not_false_eq_true, not_true_eq_false, k12, e1, e7, k8, q, b_204_57, hn]
  · have q := c_hearFault (d := d + 37) hl hR hw a0
    have hn : nr .char (iN (ft_hea S a0)) = True := isF_ch isF_hea
    have hfo : fo 7 S a0 a1 a2 a3 = ft_hea S a0 := by unfold fo; simp only [Nat.reduceEqDiff, if_false, if_true]
    rw [hfo]
    refine ⟨I, start _ ?_, Fr_rf⟩
    rw [show (if 7 < 8 then 7 + 1 else 0) = 8 from rfl, s_204_4_8, b_204_58]
    simp (disch := omega) only [rd_I_mk, rd_R_mk, rd_L_mk, rd_D_mk, kd_mk, wr_I_mk, cp_mk, gd_true, bd_ret, bd_thr, vl_none, vl_some, iN_add, iN_mul, iN_sub, iN_lt, iN_eq, iN_n, iN_m1, iN_pred, vp_iN, K0_le, nr_b0, nr_b1, m1_lt, lt_m1, iN_ne_m1, m1_ne_iN, not_lt_z, true_and, and_true, and_self, or_true, true_or, or_false, false_or, if_true, if_false, ↓reduceIte, eq_self, up_at, up_a, up_k, cp_c, cp_b, Nat.zero_add, Nat.add_zero, Nat.sub_zero, Nat.le_refl, Nat.add_sub_cancel, fu_at, fu_ne, iN_nz, n10_f, n01_f, ofN, qq_at_100, k110b, Nat.lt_irrefl, Nat.not_lt_zero, ne_eq, not_false_eq_true, not_true_eq_false, k12, e1, k8, q, b_204_62, hn]
  · have q := c_nightFault (d := d + 37) (I := I) (τ := τ) (b := c + 18) (n1 a0)
    have hn : nr .char (iN (ft_nig (n1 a0))) = True := isF_ch isF_nig
    have hfo : fo 8 S a0 a1 a2 a3 = ft_nig (n1 a0) := by unfold fo; simp only [Nat.reduceEqDiff, if_false, if_true]
    rw [hfo]
    refine ⟨I, start _ ?_, Fr_rf⟩
    rw [show (if 8 < 8 then 8 + 1 else 0) = 0 from rfl, s_204_4_d sw204, b_204_63]
    simp (disch := omega) only [rd_I_mk, rd_R_mk, rd_L_mk, rd_D_mk, kd_mk, wr_I_mk, cp_mk, gd_true, bd_ret, bd_thr, vl_none, vl_some, iN_add, iN_mul, iN_sub, iN_lt, iN_eq, iN_n, iN_m1, iN_pred, vp_iN, K0_le, nr_b0, nr_b1, m1_lt, lt_m1, iN_ne_m1, m1_ne_iN, not_lt_z, true_and, and_true, and_self, or_true, true_or, or_false, false_or, if_true, if_false, ↓reduceIte, eq_self, up_at, up_a, up_k, cp_c, cp_b, Nat.zero_add, Nat.add_zero, Nat.sub_zero, Nat.le_refl, Nat.add_sub_cancel, fu_at, fu_ne, iN_nz, n10_f, n01_f, ofN, qq_at_100, k110b, Nat.lt_irrefl, Nat.not_lt_zero, ne_eq, not_false_eq_true, not_true_eq_false, k12, e1, k8, c_n1, b_204_67, q, b_204_68, hn]
theorem c_carryOut (hL : L_C τ c) (hK : KC I τ) (hk : k < 9) (hR : R_R I (c + 18) S) (hw : wS B S) (hB : B + 660 ≤ 900000) {a0 a1 a2 a3 : Int32} (hf : fo k S a0 a1 a2 a3 = 45) : ∃ I', CC (d + 39) 205 [.ref c, .ref (57 + k), .int a0, .int a1, .int a2, .int a3] (I, τ) = some (.inl none, (I', τ)) ∧ RO I (c + 18) (c + 196) B I' (oo k S a0 a1 a2 a3) := by
  have q0 := c_ord (d := d + 38) hK hk
  obtain ⟨-, -, -, x2, x3, x4⟩ := hK
  obtain ⟨y1, y2, y3, y4⟩ := x2 k hk
  have x5 := x4 k hk
  have k12 := hL.2.1
  have e1 := hL.2.2.2.1
  have e7 := hL.2.2.2.2.2.2.2.2.1
  have hl := hL.2.2.2.2.2.2.2.2.2.2.2.2.1
  have ht := hL.2.2.2.2.2.2.2.2.2.2.2.2.2.2.2.2.2.1
  have k8 := hl.2.1
  have f0 := hl.2.2.1
  have f2 := hl.2.2.2.2.1
  have k7 := hl.2.2.2.2.2.1.2.1
  have k6 := hl.2.2.2.2.2.2.2.2.1
  have start : ∀ out, RR (d + 38 + 1) 205 4 [some (.ref c), some (.ref (57 + k)), some (.int a0), some (.int a1), some (.int a2), some (.int a3)] [.int (iN (if k < 8 then k + 1 else 0))] (I, τ) = out → CC (d + 39) 205 [.ref c, .ref (57 + k), .int a0, .int a1, .int a2, .int a3] (I, τ) = out := fun out ho => by
    rw [c_205, b_205_0]
    simp (disch := omega) only [rd_I_mk, rd_R_mk, rd_L_mk, rd_D_mk, kd_mk, wr_I_mk, cp_mk, gd_true, bd_ret, bd_thr, vl_none, vl_some, iN_add, iN_mul, iN_sub, iN_lt, iN_eq, iN_n, iN_m1, iN_pred, vp_iN, K0_le, nr_b0, nr_b1, m1_lt, lt_m1, iN_ne_m1, m1_ne_iN, not_lt_z, true_and, and_true, and_self, or_true, true_or, or_false, false_or, if_true, if_false, ↓reduceIte, eq_self, up_at, up_a, up_k, cp_c, cp_b, Nat.zero_add, Nat.add_zero, Nat.sub_zero, Nat.le_refl, Nat.add_sub_cancel, fu_at, fu_ne, iN_nz, n10_f, n01_f, ofN, qq_at_100, k110b, Nat.lt_irrefl, Nat.not_lt_zero, ne_eq, not_false_eq_true, not_true_eq_false, y2, q0, b_205_3, x3, x5]
    exact ho
  clear q0 x2 x3 x4 y1 y2 y3 y4 x5
  rcases (show k = 0 ∨ k = 1 ∨ k = 2 ∨ k = 3 ∨ k = 4 ∨ k = 5 ∨ k = 6 ∨ k = 7 ∨ k = 8 by omega) with rfl | rfl | rfl | rfl | rfl | rfl | rfl | rfl | rfl
  · have hfo : fo 0 S a0 a1 a2 a3 = ft_ped S := by unfold fo; simp only [Nat.reduceEqDiff, if_false, if_true]
    have hoo : oo 0 S a0 a1 a2 a3 = (o_ped S).2 := by unfold oo; simp only [Nat.reduceEqDiff, if_false, if_true]
    rw [hfo] at hf
    rw [hoo]
    obtain ⟨K, t1, t2⟩ := r_ped (d := d + 38) (t := c + 196) hl hR hw hB hf
    refine ⟨K, start _ ?_, t2⟩
    rw [show (if 0 < 8 then 0 + 1 else 0) = 1 from rfl, s_205_4_1, b_205_5]
    simp (disch := omega) only [rd_I_mk, rd_R_mk, rd_L_mk, rd_D_mk, kd_mk, wr_I_mk, cp_mk, gd_true, bd_ret, bd_thr, vl_none, vl_some, iN_add, iN_mul, iN_sub, iN_lt, iN_eq, iN_n, iN_m1, iN_pred, vp_iN, K0_le, nr_b0, nr_b1, m1_lt, lt_m1, iN_ne_m1, m1_ne_iN, not_lt_z, true_and, and_true, and_self, or_true, true_or, or_false, false_or, if_true, if_false, ↓reduceIte, eq_self, up_at, up_a, up_k, cp_c, cp_b, Nat.zero_add, Nat.add_zero, Nat.sub_zero, Nat.le_refl, Nat.add_sub_cancel, fu_at, fu_ne, iN_nz, n10_f, n01_f, ofN, qq_at_100, k110b, Nat.lt_irrefl, Nat.not_lt_zero, ne_eq, not_false_eq_true, not_true_eq_false, k12, e1, e7, k8, f0, f2, k7, k6, t1, b_205_9, b_205_72]
  · have hfo : fo 1 S a0 a1 a2 a3 = ft_arr S a0 a1 := by unfold fo; simp only [Nat.reduceEqDiff, if_false, if_true]
    have hoo : oo 1 S a0 a1 a2 a3 = (o_arr S a0 a1).2 := by unfold oo; simp only [Nat.reduceEqDiff, if_false, if_true]
    rw [hfo] at hf
    rw [hoo]
    obtain ⟨K, t1, t2⟩ := r_arr (d := d + 38) (t := c + 196) hl hR hw hB hf
    refine ⟨K, start _ ?_, t2⟩
    rw [show (if 1 < 8 then 1 + 1 else 0) = 2 from rfl, s_205_4_2, b_205_11]
    simp (disch := omega) only [rd_I_mk, rd_R_mk, rd_L_mk, rd_D_mk, kd_mk, wr_I_mk, cp_mk, gd_true, bd_ret, bd_thr, vl_none, vl_some, iN_add, iN_mul, iN_sub, iN_lt, iN_eq, iN_n, iN_m1, iN_pred, vp_iN, K0_le, nr_b0, nr_b1, m1_lt, lt_m1, iN_ne_m1, m1_ne_iN, not_lt_z, true_and, and_true, and_self, or_true, true_or, or_false, false_or, if_true, if_false, ↓reduceIte, eq_self, up_at, up_a, up_k, cp_c, cp_b, Nat.zero_add, Nat.add_zero, Nat.sub_zero, Nat.le_refl, Nat.add_sub_cancel, fu_at, fu_ne, iN_nz, n10_f, n01_f, ofN, qq_at_100, k110b, Nat.lt_irrefl, Nat.not_lt_zero, ne_eq, not_false_eq_true, not_true_eq_false, k12, e1, e7, k8, f0, f2, k7, k6, t1, b_205_17, b_205_72]
  · have hfo : fo 2 S a0 a1 a2 a3 = ft_sta S a0 a1 := by unfold fo; simp only [Nat.reduceEqDiff, if_false, if_true]
    have hoo : oo 2 S a0 a1 a2 a3 = (o_sta S a0 a1).2 := by unfold oo; simp only [Nat.reduceEqDiff, if_false, if_true]
    rw [hfo] at hf
    rw [hoo]
    obtain ⟨K, t1, t2⟩ := r_sta (d := d + 38) (t := c + 196) hl hR hw hB hf
    refine ⟨K, start _ ?_, t2⟩
    rw [show (if 2 < 8 then 2 + 1 else 0) = 3 from rfl, s_205_4_3, b_205_19]
    simp (disch := omega) only [rd_I_mk, rd_R_mk, rd_L_mk, rd_D_mk, kd_mk, wr_I_mk, cp_mk, gd_true, bd_ret, bd_thr, vl_none, vl_some, iN_add, iN_mul, iN_sub, iN_lt, iN_eq, iN_n, iN_m1, iN_pred, vp_iN, K0_le, nr_b0, nr_b1, m1_lt, lt_m1, iN_ne_m1, m1_ne_iN, not_lt_z, true_and, and_true, and_self, or_true, true_or, or_false, false_or, if_true, if_false, ↓reduceIte, eq_self, up_at, up_a, up_k, cp_c, cp_b, Nat.zero_add, Nat.add_zero, Nat.sub_zero, Nat.le_refl, Nat.add_sub_cancel, fu_at, fu_ne, iN_nz, n10_f, n01_f, ofN, qq_at_100, k110b, Nat.lt_irrefl, Nat.not_lt_zero, ne_eq, not_false_eq_true, not_true_eq_false, k12, e1, e7, k8, f0, f2, k7, k6, t1, b_205_25, b_205_72]
  · have hfo : fo 3 S a0 a1 a2 a3 = ft_hom S a0 a1 := by unfold fo; simp only [Nat.reduceEqDiff, if_false, if_true]
    have hoo : oo 3 S a0 a1 a2 a3 = (o_hom S a0 a1).2 := by unfold oo; simp only [Nat.reduceEqDiff, if_false, if_true]
    rw [hfo] at hf
    rw [hoo]
    obtain ⟨K, t1, t2⟩ := r_hom (d := d + 38) (t := c + 196) hl hR hw hB hf
    refine ⟨K, start _ ?_, t2⟩
    rw [show (if 3 < 8 then 3 + 1 else 0) = 4 from rfl, s_205_4_4, b_205_27]
    simp (disch := omega) only [rd_I_mk, rd_R_mk, rd_L_mk, rd_D_mk, kd_mk, wr_I_mk, cp_mk, gd_true, bd_ret, bd_thr, vl_none, vl_some, iN_add, iN_mul, iN_sub, iN_lt, iN_eq, iN_n, iN_m1, iN_pred, vp_iN, K0_le, nr_b0, nr_b1, m1_lt, lt_m1, iN_ne_m1, m1_ne_iN, not_lt_z, true_and, and_true, and_self, or_true, true_or, or_false, false_or, if_true, if_false, ↓reduceIte, eq_self, up_at, up_a, up_k, cp_c, cp_b, Nat.zero_add, Nat.add_zero, Nat.sub_zero, Nat.le_refl, Nat.add_sub_cancel, fu_at, fu_ne, iN_nz, n10_f, n01_f, ofN, qq_at_100, k110b, Nat.lt_irrefl, Nat.not_lt_zero, ne_eq, not_false_eq_true, not_true_eq_false, k12, e1, e7, k8, f0, f2, k7, k6, t1, b_205_33, b_205_72]
  · by_cases z : a3 = m1
    · have hfo : fo 4 S a0 a1 a2 a3 = ft_wri S a0 a1 a2 := by unfold fo; simp only [z, Nat.reduceEqDiff, if_false, if_true]
      have hoo : oo 4 S a0 a1 a2 a3 = (o_wri S a0 a1 a2).2 := by unfold oo; simp only [z, Nat.reduceEqDiff, if_false, if_true]
      rw [hfo] at hf
      rw [hoo]
      obtain ⟨K, t1, t2⟩ := r_wri (d := d + 37) (t := c + 196) hl hR hw hB hf
      refine ⟨K, start _ ?_, t2⟩
      rw [show (if 4 < 8 then 4 + 1 else 0) = 5 from rfl, s_205_4_5, b_205_35, z]
      simp (disch := omega) only [rd_I_mk, rd_R_mk, rd_L_mk, rd_D_mk, kd_mk, wr_I_mk, cp_mk, gd_true, bd_ret, bd_thr, vl_none, vl_some, iN_add, iN_mul, iN_sub, iN_lt, iN_eq, iN_n, iN_m1, iN_pred, vp_iN, K0_le, nr_b0, nr_b1, m1_lt, lt_m1, iN_ne_m1, m1_ne_iN, not_lt_z, true_and, and_true, and_self, or_true, true_or, or_false, false_or, if_true, if_false, ↓reduceIte, eq_self, up_at, up_a, up_k, cp_c, cp_b, Nat.zero_add, Nat.add_zero, Nat.sub_zero, Nat.le_refl, Nat.add_sub_cancel, fu_at, fu_ne, iN_nz, n10_f, n01_f, ofN, qq_at_100, k110b, Nat.lt_irrefl, Nat.not_lt_zero, ne_eq, not_false_eq_true, not_true_eq_false, k12, e1, k8, t1, b_205_42, b_205_72]
    · have hfo : fo 4 S a0 a1 a2 a3 = ft_fol S a0 a1 a2 a3 := by unfold fo; simp only [z, Nat.reduceEqDiff, if_false, if_true]
      have hoo : oo 4 S a0 a1 a2 a3 = (o_fol S a0 a1 a2 a3).2 := by unfold oo; simp only [z, Nat.reduceEqDiff, if_false, if_true]
      rw [hfo] at hf
      rw [hoo]
      obtain ⟨K, t1, t2⟩ := r_fol (d := d + 37) (t := c + 196) hl hR hw hB hf
      refine ⟨K, start _ ?_, t2⟩
      rw [show (if 4 < 8 then 4 + 1 else 0) = 5 from rfl, s_205_4_5, b_205_35]
      simp (disch := omega) only [rd_I_mk, rd_R_mk, rd_L_mk, rd_D_mk, kd_mk, wr_I_mk, cp_mk, gd_true, bd_ret, bd_thr, vl_none, vl_some, iN_add, iN_mul, iN_sub, iN_lt, iN_eq, iN_n, iN_m1, iN_pred, vp_iN, K0_le, nr_b0, nr_b1, m1_lt, lt_m1, iN_ne_m1, m1_ne_iN, not_lt_z, true_and, and_true, and_self, or_true, true_or, or_false, false_or, if_true, if_false, ↓reduceIte, eq_self, up_at, up_a, up_k, cp_c, cp_b, Nat.zero_add, Nat.add_zero, Nat.sub_zero, Nat.le_refl, Nat.add_sub_cancel, fu_at, fu_ne, iN_nz, n10_f, n01_f, ofN, qq_at_100, k110b, Nat.lt_irrefl, Nat.not_lt_zero, ne_eq, not_false_eq_true, not_true_eq_false, k12, e1, k8, t1, b_205_42, b_205_72]
  · have hfo : fo 5 S a0 a1 a2 a3 = ft_blk S a0 a1 := by unfold fo; simp only [Nat.reduceEqDiff, if_false, if_true]
    have hoo : oo 5 S a0 a1 a2 a3 = (o_blk S a0 a1).2 := by unfold oo; simp only [Nat.reduceEqDiff, if_false, if_true]
    rw [hfo] at hf
    rw [hoo]
    obtain ⟨K, t1, t2⟩ := r_blk (d := d + 38) (t := c + 196) hl hR hw hB hf
    refine ⟨K, start _ ?_, t2⟩
    rw [show (if 5 < 8 then 5 + 1 else 0) = 6 from rfl, s_205_4_6, b_205_44]
    simp (disch := omega) only [rd_I_mk, rd_R_mk, rd_L_mk, rd_D_mk, kd_mk, wr_I_mk, cp_mk, gd_true, bd_ret, bd_thr, vl_none, vl_some, iN_add, iN_mul, iN_sub, iN_lt, iN_eq, iN_n, iN_m1, iN_pred, vp_iN, K0_le, nr_b0, nr_b1, m1_lt, lt_m1, iN_ne_m1, m1_ne_iN, not_lt_z, true_and, and_true, and_self, or_true, true_or, or_false, false_or, if_true, if_false, ↓reduceIte, eq_self, up_at, up_a, up_k, cp_c, cp_b, Nat.zero_add, Nat.add_zero, Nat.sub_zero, Nat.le_refl, Nat.add_sub_cancel, fu_at, fu_ne, iN_nz, n10_f, n01_f, ofN, qq_at_100, k110b, Nat.lt_irrefl, Nat.not_lt_zero, ne_eq, not_false_eq_true, not_true_eq_false, k12, e1, e7, k8, f0, f2, k7, k6, t1, b_205_50, b_205_72]
  · have hfo : fo 6 S a0 a1 a2 a3 = ft_pay S a0 := by unfold fo; simp only [Nat.reduceEqDiff, if_false, if_true]
    have hoo : oo 6 S a0 a1 a2 a3 = (o_pay S a0).2 := by unfold oo; simp only [Nat.reduceEqDiff, if_false, if_true]
    rw [hfo] at hf
    rw [hoo]
    obtain ⟨K, t1, t2⟩ := r_pay (d := d + 36) (t := c + 196) hl ht (Or.inl (by omega)) hR hw hB hf
    refine ⟨K, start _ ?_, t2⟩
    rw [show (if 6 < 8 then 6 + 1 else 0) = 7 from rfl, s_205_4_7, b_205_52]
    simp (disch := omega) only [rd_I_mk, rd_R_mk, rd_L_mk, rd_D_mk, kd_mk, wr_I_mk, cp_mk, gd_true, bd_ret, bd_thr, vl_none, vl_some, iN_add, iN_mul, iN_sub, iN_lt, iN_eq, iN_n, iN_m1, iN_pred, vp_iN, K0_le, nr_b0, nr_b1, m1_lt, lt_m1, iN_ne_m1, m1_ne_iN, not_lt_z, true_and, and_true, and_self, or_true, true_or, or_false, false_or, if_true, if_false, ↓reduceIte, eq_self, up_at, up_a, up_k, cp_c, cp_b, Nat.zero_add, Nat.add_zero, Nat.sub_zero, Nat.le_refl, Nat.add_sub_cancel, fu_at, fu_ne, iN_nz, n10_f, n01_f, ofN, qq_at_100, k110b, Nat.lt_irrefl, Nat.not_lt_zero, ne_eq, not_false_eq_true, not_true_eq_false, k12, e1, e7, k8, f0, f2, k7, k6, t1, b_205_58, b_205_72]
  · have hfo : fo 7 S a0 a1 a2 a3 = ft_hea S a0 := by unfold fo; simp only [Nat.reduceEqDiff, if_false, if_true]
    have hoo : oo 7 S a0 a1 a2 a3 = (o_hea S a0).2 := by unfold oo; simp only [Nat.reduceEqDiff, if_false, if_true]
    rw [hfo] at hf
    rw [hoo]
    obtain ⟨K, t1, t2⟩ := r_hea (d := d + 34) (t := c + 196) hl hR hw hB hf
    refine ⟨K, start _ ?_, t2⟩
    rw [show (if 7 < 8 then 7 + 1 else 0) = 8 from rfl, s_205_4_8, b_205_60]
    simp (disch := omega) only [rd_I_mk, rd_R_mk, rd_L_mk, rd_D_mk, kd_mk, wr_I_mk, cp_mk, gd_true, bd_ret, bd_thr, vl_none, vl_some, iN_add, iN_mul, iN_sub, iN_lt, iN_eq, iN_n, iN_m1, iN_pred, vp_iN, K0_le, nr_b0, nr_b1, m1_lt, lt_m1, iN_ne_m1, m1_ne_iN, not_lt_z, true_and, and_true, and_self, or_true, true_or, or_false, false_or, if_true, if_false, ↓reduceIte, eq_self, up_at, up_a, up_k, cp_c, cp_b, Nat.zero_add, Nat.add_zero, Nat.sub_zero, Nat.le_refl, Nat.add_sub_cancel, fu_at, fu_ne, iN_nz, n10_f, n01_f, ofN, qq_at_100, k110b, Nat.lt_irrefl, Nat.not_lt_zero, ne_eq, not_false_eq_true, not_true_eq_false, k12, e1, e7, k8, f0, f2, k7, k6, t1, b_205_64, b_205_72]
  · have hfo : fo 8 S a0 a1 a2 a3 = ft_nig (n1 a0) := by unfold fo; simp only [Nat.reduceEqDiff, if_false, if_true]
    have hoo : oo 8 S a0 a1 a2 a3 = (o_nig S (n1 a0)).2 := by unfold oo; simp only [Nat.reduceEqDiff, if_false, if_true]
    rw [hfo] at hf
    rw [hoo]
    obtain ⟨K, t1, t2⟩ := r_nig (d := d + 34) (t := c + 196) hl hR hw hB hf
    refine ⟨K, start _ ?_, t2⟩
    rw [show (if 8 < 8 then 8 + 1 else 0) = 0 from rfl, s_205_4_d sw204, b_205_66]
    simp (disch := omega) only [rd_I_mk, rd_R_mk, rd_L_mk, rd_D_mk, kd_mk, wr_I_mk, cp_mk, gd_true, bd_ret, bd_thr, vl_none, vl_some, iN_add, iN_mul, iN_sub, iN_lt, iN_eq, iN_n, iN_m1, iN_pred, vp_iN, K0_le, nr_b0, nr_b1, m1_lt, lt_m1, iN_ne_m1, m1_ne_iN, not_lt_z, true_and, and_true, and_self, or_true, true_or, or_false, false_or, if_true, if_false, ↓reduceIte, eq_self, up_at, up_a, up_k, cp_c, cp_b, Nat.zero_add, Nat.add_zero, Nat.sub_zero, Nat.le_refl, Nat.add_sub_cancel, fu_at, fu_ne, iN_nz, n10_f, n01_f, ofN, qq_at_100, k110b, Nat.lt_irrefl, Nat.not_lt_zero, ne_eq, not_false_eq_true, not_true_eq_false, k12, e1, k8, c_n1, b_205_70, t1, b_205_71, b_205_72]
end CA
