/-! THE SCRIPT: which command, reading it, reading all -/
def fms : List (List Nat) := [[112, 101, 100, 101, 115, 116, 97, 108], [97, 114, 114, 111, 119, 32, 35, 35], [115, 116, 97, 116, 117, 101, 32, 35, 32, 37], [104, 111, 109, 101, 32, 35, 35], [119, 114, 105, 116, 32, 35, 32, 37, 32, 37, 91, 60, 37, 93], [98, 108, 111, 99, 107, 32, 37, 32, 35], [112, 97, 121, 32, 37], [104, 101, 97, 114, 32, 37], [110, 105, 103, 104, 116, 91, 32, 37, 93]]
def frm (i : Nat) : List Nat := fms.getD i []
theorem frm_mem : ∀ i, i < 9 → (39 + 2 * i, frm i) ∈ ktab := by decide
theorem frm_ok : ∀ i, i < 9 → gF (frm i) = true ∧ nmb (frm i) ≤ 4 := by decide
/-- how many signs of a form the text begins with -/
def cml (T : List Nat) : List Nat → Nat → Nat
  | [], _ => 0
  | ch :: f, pos => if sg T pos = ch then cml T f (pos + 1) + 1 else 0
/-- the likeliest among the first i commands, and how far it goes -/
def lk (T : List Nat) (pos : Nat) : Nat → Nat × Nat
  | 0 => (0, 0)
  | i + 1 => if (lk T pos i).2 < cml T (frm i) pos then (i, cml T (frm i) pos) else lk T pos i
theorem lk_lt {T : List Nat} {pos : Nat} : ∀ i, (lk T pos i).1 < i + 1 := by
  intro i
  induction i with
  | zero => exact Nat.one_pos
  | succ i ih =>
    rw [lk]
    split
    · show i < i + 1 + 1; omega
    · omega
theorem lk_9 {T : List Nat} {pos : Nat} : (lk T pos 9).1 < 9 := by
  have h : ∀ i, (lk T pos (i + 1)).1 < i + 1 := by
    intro i
    induction i with
    | zero =>
      rw [lk]
      split
      · exact Nat.one_pos
      · exact Nat.one_pos
    | succ i ih =>
      rw [lk]
      split
      · show i + 1 < i + 1 + 1; omega
      · omega
  exact h 8
theorem cml_le {T : List Nat} : ∀ F pos, cml T F pos ≤ F.length := by
  intro F
  induction F with
  | nil => intro pos; exact Nat.le_refl _
  | cons ch f ih =>
    intro pos
    rw [cml]
    split
    · have := ih (pos + 1); rw [List.length_cons]; omega
    · exact Nat.zero_le _
theorem k112 : ((110 : Nat) ≤ 112 ∧ (112 : Nat) < 113) = True := eq_true (by omega)
theorem qq_at_112 : (qq_at 112 = true) = True := eq_true rfl
section LK
variable {d : Nat} {I : qq_I} {τ : qq_R} {p Z : Nat} {T : List Nat}
theorem c_commonLength (h : SC I τ p Z T) {s pos : Nat} {F : List Nat} (hF : St I τ s F) (hp : I p 5 = iN pos) (hpos : pos < 100000) : CC (d + 7) 104 [.ref p, .ref s] (I, τ) = some (.inl (some (.int (iN (cml T F pos)))), (I, τ)) := by
  have hS := h.1
  obtain ⟨p70, k9, -⟩ := hS
  have hF0 := hF
  obtain ⟨s3, s70, sk, -, -, -, sl, sc, -⟩ := hF0
  have q1 := c_strLen (d := d + 5) hF
  have lp : ∀ (f : List Nat) i, i ≤ F.length → F.drop i = f → RR (d + 7) 104 2 [some (.ref p), some (.ref s), some (.int (iN i))] [] (I, τ) = some (.inl (some (.int (iN (i + cml T f (pos + i))))), (I, τ)) := by
    intro f
    induction f with
    | nil =>
      intro i hi hd
      have hi2 : F.length ≤ i := List.drop_eq_nil_iff.mp hd
      have e : ¬ i < F.length := by omega
      rw [b_104_2]
      simp (disch := omega) only [rd_I_mk, rd_R_mk, rd_L_mk, rd_D_mk, kd_mk, wr_I_mk, cp_mk, gd_true, bd_ret, bd_thr, vl_none, vl_some, iN_add, iN_mul, iN_sub, iN_lt, iN_eq, iN_n, iN_m1, iN_pred, vp_iN, K0_le, nr_b0, nr_b1, m1_lt, lt_m1, iN_ne_m1, m1_ne_iN, not_lt_z, true_and, and_true, and_self, or_true, true_or, or_false, false_or, if_true, if_false, ↓reduceIte, eq_self, up_at, up_a, up_k, cp_c, cp_b, Nat.zero_add, Nat.add_zero, Nat.sub_zero, Nat.le_refl, Nat.add_sub_cancel, fu_at, fu_ne, iN_nz, n10_f, n01_f, ofN, qq_at_100, k110b, Nat.lt_irrefl, Nat.not_lt_zero, ne_eq, not_false_eq_true, not_true_eq_false, sk, q1, b_104_5, e, b_104_18, cml]
    | cons ch f ih =>
      intro i hi hd
      have hil : i < F.length := by
        rcases Nat.lt_or_ge i F.length with q | q
        · exact q
        · rw [List.drop_eq_nil_of_le q] at hd; exact absurd hd (by simp)
      rw [List.drop_eq_getElem_cons hil] at hd
      obtain ⟨hd1, hd2⟩ := List.cons.inj hd
      have hchb := sc _ (List.getElem_mem hil)
      rw [hd1] at hchb
      have q2 := c_strAt (d := d + 3) hF hil
      rw [hd1] at q2
      have q3 := c_signAt (d := d + 2) h (i := pos + i) (by omega)
      have hb := sg_b h.2.2.2.1 (pos + i)
      have hih := ih (i + 1) hil hd2
      rw [cml]
      by_cases z : sg T (pos + i) = ch
      · rw [if_pos z]
        rw [show pos + (i + 1) = pos + i + 1 by omega] at hih
        rw [show i + (cml T f (pos + i + 1) + 1) = i + 1 + cml T f (pos + i + 1) by omega, b_104_2]
        simp (disch := omega) only [rd_I_mk, rd_R_mk, rd_L_mk, rd_D_mk, kd_mk, wr_I_mk, cp_mk, gd_true, bd_ret, bd_thr, vl_none, vl_some, iN_add, iN_mul, iN_sub, iN_lt, iN_eq, iN_n, iN_m1, iN_pred, vp_iN, K0_le, nr_b0, nr_b1, m1_lt, lt_m1, iN_ne_m1, m1_ne_iN, not_lt_z, true_and, and_true, and_self, or_true, true_or, or_false, false_or, if_true, if_false, ↓reduceIte, eq_self, up_at, up_a, up_k, cp_c, cp_b, Nat.zero_add, Nat.add_zero, Nat.sub_zero, Nat.le_refl, Nat.add_sub_cancel, fu_at, fu_ne, iN_nz, n10_f, n01_f, ofN, qq_at_100, k110b, Nat.lt_irrefl, Nat.not_lt_zero, ne_eq, not_false_eq_true, not_true_eq_false, sk, q1, b_104_5, hil, q2, b_104_9, k9, hp, q3, b_104_15, z]
        exact hih
      · have z' : ¬ ch = sg T (pos + i) := fun y => z y.symm
        rw [if_neg z, b_104_2]
        simp (disch := omega) only [rd_I_mk, rd_R_mk, rd_L_mk, rd_D_mk, kd_mk, wr_I_mk, cp_mk, gd_true, bd_ret, bd_thr, vl_none, vl_some, iN_add, iN_mul, iN_sub, iN_lt, iN_eq, iN_n, iN_m1, iN_pred, vp_iN, K0_le, nr_b0, nr_b1, m1_lt, lt_m1, iN_ne_m1, m1_ne_iN, not_lt_z, true_and, and_true, and_self, or_true, true_or, or_false, false_or, if_true, if_false, ↓reduceIte, eq_self, up_at, up_a, up_k, cp_c, cp_b, Nat.zero_add, Nat.add_zero, Nat.sub_zero, Nat.le_refl, Nat.add_sub_cancel, fu_at, fu_ne, iN_nz, n10_f, n01_f, ofN, qq_at_100, k110b, Nat.lt_irrefl, Nat.not_lt_zero, ne_eq, not_false_eq_true, not_true_eq_false, sk, q1, b_104_5, hil, q2, b_104_9, k9, hp, q3, b_104_15, z', b_104_18]
  rw [c_104, b_104_0]
  have := lp F 0 (Nat.zero_le _) (by rw [List.drop_zero])
  rw [Nat.zero_add, Nat.add_zero] at this
  exact this
theorem c_likeliest (h : SC I τ p Z T) (hK : KC I τ) {pos : Nat} (hp : I p 5 = iN pos) (hpos : pos < 100000) : CC (d + 8) 103 [.ref p] (I, τ) = some (.inl (some (.ref (57 + (lk T pos 9).1))), (I, τ)) := by
  have hS := h.1
  obtain ⟨p70, k9, -⟩ := hS
  obtain ⟨-, hst, a1, a2, -⟩ := hK
  have lp : ∀ m i (u6 u7 : Option Value), i + m = 9 → RR (d + 8) 103 11 [some (.ref p), some (.ref (57 + (lk T pos i).1)), some (.int (iN (lk T pos i).2)), some (.ref 66), some (.int (iN 9)), some (.int (iN i)), u6, u7] [] (I, τ) = some (.inl (some (.ref (57 + (lk T pos 9).1))), (I, τ)) := by
    intro m
    induction m with
    | zero =>
      intro i u6 u7 hi
      have hi : i = 9 := hi
      subst hi
      rw [b_103_11]
      simp (disch := omega) only [rd_I_mk, rd_R_mk, rd_L_mk, rd_D_mk, kd_mk, wr_I_mk, cp_mk, gd_true, bd_ret, bd_thr, vl_none, vl_some, iN_add, iN_mul, iN_sub, iN_lt, iN_eq, iN_n, iN_m1, iN_pred, vp_iN, K0_le, nr_b0, nr_b1, m1_lt, lt_m1, iN_ne_m1, m1_ne_iN, not_lt_z, true_and, and_true, and_self, or_true, true_or, or_false, false_or, if_true, if_false, ↓reduceIte, eq_self, up_at, up_a, up_k, cp_c, cp_b, Nat.zero_add, Nat.add_zero, Nat.sub_zero, Nat.le_refl, Nat.add_sub_cancel, fu_at, fu_ne, iN_nz, n10_f, n01_f, ofN, qq_at_100, k110b, Nat.lt_irrefl, Nat.not_lt_zero, ne_eq, not_false_eq_true, not_true_eq_false]
    | succ m ih =>
      intro i u6 u7 hi
      obtain ⟨b1, b2, b3, b4⟩ := a2 i (by omega)
      have q1 := c_commonLength (d := d) h (hst _ (frm_mem i (by omega))) hp hpos
      have e : i < 9 := by omega
      have hc := cml_le (T := T) (frm i) pos
      have hfl : (frm i).length ≤ 60 := (hst _ (frm_mem i (by omega))).2.2.2.2.2.2.1
      have hl2 : (lk T pos i).2 ≤ 60 := by
        clear ih hi hc q1 b1 b2 b3 b4
        have gen : ∀ j, j ≤ 9 → (lk T pos j).2 ≤ 60 := by
          intro j
          induction j with
          | zero => intro _; exact Nat.zero_le _
          | succ j ihj =>
            intro hj
            rw [lk]
            split
            · have h1 := cml_le (T := T) (frm j) pos
              have h2 : (frm j).length ≤ 60 := (hst _ (frm_mem j (by omega))).2.2.2.2.2.2.1
              show cml T (frm j) pos ≤ 60
              omega
            · exact ihj (by omega)
        exact gen i (by omega)
      have hih := ih (i + 1) (some (.ref (57 + i))) (some (.int (iN (cml T (frm i) pos)))) (by omega)
      rw [lk] at hih
      rw [b_103_11]
      by_cases z : (lk T pos i).2 < cml T (frm i) pos
      · rw [if_pos z] at hih
        simp (disch := omega) only [rd_I_mk, rd_R_mk, rd_L_mk, rd_D_mk, kd_mk, wr_I_mk, cp_mk, gd_true, bd_ret, bd_thr, vl_none, vl_some, iN_add, iN_mul, iN_sub, iN_lt, iN_eq, iN_n, iN_m1, iN_pred, vp_iN, K0_le, nr_b0, nr_b1, m1_lt, lt_m1, iN_ne_m1, m1_ne_iN, not_lt_z, true_and, and_true, and_self, or_true, true_or, or_false, false_or, if_true, if_false, ↓reduceIte, eq_self, up_at, up_a, up_k, cp_c, cp_b, Nat.zero_add, Nat.add_zero, Nat.sub_zero, Nat.le_refl, Nat.add_sub_cancel, fu_at, fu_ne, iN_nz, n10_f, n01_f, ofN, qq_at_100, k110b, Nat.lt_irrefl, Nat.not_lt_zero, ne_eq, not_false_eq_true, not_true_eq_false, e, a1, b1, b2, b4, k9, q1, b_103_22, z, b_103_30, k112]
        exact hih
      · rw [if_neg z] at hih
        simp (disch := omega) only [rd_I_mk, rd_R_mk, rd_L_mk, rd_D_mk, kd_mk, wr_I_mk, cp_mk, gd_true, bd_ret, bd_thr, vl_none, vl_some, iN_add, iN_mul, iN_sub, iN_lt, iN_eq, iN_n, iN_m1, iN_pred, vp_iN, K0_le, nr_b0, nr_b1, m1_lt, lt_m1, iN_ne_m1, m1_ne_iN, not_lt_z, true_and, and_true, and_self, or_true, true_or, or_false, false_or, if_true, if_false, ↓reduceIte, eq_self, up_at, up_a, up_k, cp_c, cp_b, Nat.zero_add, Nat.add_zero, Nat.sub_zero, Nat.le_refl, Nat.add_sub_cancel, fu_at, fu_ne, iN_nz, n10_f, n01_f, ofN, qq_at_100, k110b, Nat.lt_irrefl, Nat.not_lt_zero, ne_eq, not_false_eq_true, not_true_eq_false, e, a1, b1, b2, b4, k9, q1, b_103_22, z, b_103_30, k112]
        exact hih
  rw [c_103, b_103_0]
  simp (disch := omega) only [rd_I_mk, rd_R_mk, rd_L_mk, rd_D_mk, kd_mk, wr_I_mk, cp_mk, gd_true, bd_ret, bd_thr, vl_none, vl_some, iN_add, iN_mul, iN_sub, iN_lt, iN_eq, iN_n, iN_m1, iN_pred, vp_iN, K0_le, nr_b0, nr_b1, m1_lt, lt_m1, iN_ne_m1, m1_ne_iN, not_lt_z, true_and, and_true, and_self, or_true, true_or, or_false, false_or, if_true, if_false, ↓reduceIte, eq_self, up_at, up_a, up_k, cp_c, cp_b, Nat.zero_add, Nat.add_zero, Nat.sub_zero, Nat.le_refl, Nat.add_sub_cancel, fu_at, fu_ne, iN_nz, n10_f, n01_f, ofN, qq_at_100, k110b, Nat.lt_irrefl, Nat.not_lt_zero, ne_eq, not_false_eq_true, not_true_eq_false, a1, qq_at_112]
  exact lp 9 0 none none rfl
end LK
