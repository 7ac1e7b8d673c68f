/-! THE MODEL: reading a command -/
theorem rdF_nil {T : List Nat} {pos : Nat} {a : List Nat} : rdF T [] pos a = (true, pos, a) := rfl
theorem rdF_c {T : List Nat} {ch : Nat} (h : ch ≠ 91 ∧ ch ≠ 93 ∧ ch ≠ 35 ∧ ch ≠ 37) (f : List Nat) (pos : Nat) (a : List Nat) : rdF T (ch :: f) pos a = if sg T pos = ch then rdF T f (pos + 1) a else (false, pos, a) := by
  rw [rdF, if_neg h.1, if_neg h.2.1, if_neg (fun q => by rcases q with q | q; exact h.2.2.1 q; exact h.2.2.2 q)]
theorem rdF_n1 {T : List Nat} (f : List Nat) (pos : Nat) (a : List Nat) : rdF T (35 :: f) pos a = if (rdN T 1 pos 0).2 = pos then (false, pos, a) else rdF T f (rdN T 1 pos 0).2 (a ++ [(rdN T 1 pos 0).1]) := by
  rw [rdF, if_neg (by decide), if_neg (by decide), if_pos (Or.inl rfl)]
  rfl
theorem rdF_n3 {T : List Nat} (f : List Nat) (pos : Nat) (a : List Nat) : rdF T (37 :: f) pos a = if (rdN T 3 pos 0).2 = pos then (false, pos, a) else rdF T f (rdN T 3 pos 0).2 (a ++ [(rdN T 3 pos 0).1]) := by
  rw [rdF, if_neg (by decide), if_neg (by decide), if_pos (Or.inr rfl)]
  rfl
theorem rdF_o {T : List Nat} (ch : Nat) (f : List Nat) (pos : Nat) (a : List Nat) : rdF T (91 :: ch :: f) pos a = if sg T pos = ch then rdF T (ch :: f) pos a else (true, pos, a) := by
  rw [rdF, if_pos rfl]
  rfl
theorem rdF_lit {T : List Nat} (G : List Nat) : ∀ (L : List Nat) (pos : Nat) (a : List Nat), (∀ c ∈ L, c ≠ 91 ∧ c ≠ 93 ∧ c ≠ 35 ∧ c ≠ 37) → rdF T (L ++ G) pos a = if (lit T L pos).1 = true then rdF T G (lit T L pos).2 a else (false, (lit T L pos).2, a) := by
  intro L
  induction L with
  | nil => intro pos a _; rfl
  | cons c L ih =>
    intro pos a h
    rw [List.cons_append, rdF_c (h c List.mem_cons_self), lit]
    by_cases y : sg T pos = c
    · rw [if_pos y, if_pos y]
      exact ih (pos + 1) a (fun x hx => h x (List.mem_cons_of_mem _ hx))
    · rw [if_neg y, if_neg y]
      rfl
/-- a command as the model holds it -/
def rowR (f : Nat → Int32) (b k : Nat) (a : List Nat) : Prop :=
  (k = 0 ∧ f b = iN 112) ∨ (k = 1 ∧ f b = iN 97 ∧ f (b + 1) = aN a 0 ∧ f (b + 2) = aN a 1) ∨ (k = 2 ∧ f b = iN 115 ∧ f (b + 1) = aN a 0 ∧ f (b + 2) = aN a 1) ∨ (k = 3 ∧ f b = iN 104 ∧ f (b + 1) = aN a 0 ∧ f (b + 2) = aN a 1) ∨
  (k = 4 ∧ f b = iN 119 ∧ f (b + 1) = aN a 0 ∧ f (b + 2) = aN a 1 ∧ f (b + 3) = aN a 2 ∧ aN a 3 = m1) ∨ (k = 4 ∧ f b = iN 102 ∧ f (b + 1) = aN a 0 ∧ f (b + 2) = aN a 1 ∧ f (b + 3) = aN a 2 ∧ f (b + 4) = aN a 3 ∧ aN a 3 ≠ m1) ∨
  (k = 5 ∧ f b = iN 98 ∧ f (b + 1) = aN a 0 ∧ f (b + 2) = aN a 1) ∨ (k = 6 ∧ f b = iN 121 ∧ f (b + 1) = aN a 0) ∨ (k = 7 ∧ f b = iN 101 ∧ f (b + 1) = aN a 0) ∨ (k = 8 ∧ f b = iN 110 ∧ f (b + 1) = n1 (aN a 0))
/-- a command read, or where reading stopped -/
def OC (m : Nat) (I : qq_I) (T : List Nat) (J J' : qq_I) (b k pos : Nat) : Prop := PS m I T J' (rdF T (frm k) pos []).2.1 ∧ J' m 19 = J m 19 ∧ (∀ j, j < b → J' (m + 9) j = J (m + 9) j) ∧ ((rdF T (frm k) pos []).1 = true → rowR (J' (m + 9)) b k (rdF T (frm k) pos []).2.2)
theorem PS_up {m : Nat} {I J : qq_I} {T : List Nat} {pos i : Nat} {v : Int32} (h : PS m I T J pos) : PS m I T (up_2 J (m + 9) i v) pos ∧ (up_2 J (m + 9) i v) (m + 9) = fu (J (m + 9)) i v ∧ (up_2 J (m + 9) i v) m 19 = J m 19 :=
  ⟨⟨h.1, by rw [up_c (by omega)]; exact h.2.1, fun a a1 a2 => by rw [up_c a2]; exact h.2.2.1 a a1 a2, fun k k1 k2 => by rw [up_c (by omega)]; exact h.2.2.2 k k1 k2⟩, by
    funext j
    by_cases e : j = i
    · rw [e, up_at, fu_at]
    · rw [up_k e, fu_ne e], by rw [up_c (by omega)]⟩
theorem rdN3_m1 {T : List Nat} {p : Nat} : (iN (rdN T 3 p 0).1 = m1) = False := iN_ne_m1 (by have := rdN_v (T := T) 3 p 0; omega)
section MRC
variable {d : Nat} {I J : qq_I} {τ : qq_R} {m pos b : Nat} {T : List Nat}
theorem c_rdA (hL : L_N τ m) (hT : TP I m T) (hS : ∀ p ∈ ktab, St I τ p.1 p.2) (hP : PS m I T J (pos + 1)) (hb : b + 5 ≤ 155) (hs : sg T pos = 97) (hb0 : J (m + 9) b = iN 97) (x1 : Int32) : ∃ J', RR (d + 6) 318 18 [some (.ref m), some (.int x1), some (.int (iN b))] [] (J, τ) = some (.inl (some (.int (b01 (rdF T (frm 1) pos []).1))), (J', τ)) ∧ OC m I T J J' b 1 pos := by
  obtain ⟨m70, k0, r0, r1, r2, r3, r4, r5, r6, r7, r8, g1, g2, g3, g4, g5, g6, g7, g8, g9⟩ := id hL
  have e0 : rdF T (frm 1) pos [] = rdF T [114, 114, 111, 119, 32, 35, 35] (pos + 1) [] := (rdF_c (T := T) (ch := 97) (by decide) [114, 114, 111, 119, 32, 35, 35] pos []).trans (if_pos hs)
  obtain ⟨J1, u1, P1, f1, g1⟩ := c_takesAll (d := d + 1) hL hT (hS (17, [114, 114, 111, 119, 32]) (by decide)) (by decide) hP
  have er1 := rdF_lit (T := T) [35, 35] [114, 114, 111, 119, 32] (pos + 1) ([]) (by decide)
  cases hb1 : (lit T [114, 114, 111, 119, 32] (pos + 1)).1 with
  | false =>
    have e1 := e0.trans (er1.trans (if_neg (by rw [hb1]; decide)))
    rw [hb1, b01_f] at u1
    refine ⟨J1, ?_, ?_⟩
    · rw [e1, b_318_18]
      simp (disch := omega) only [rd_I_mk, rd_R_mk, rd_L_mk, rd_D_mk, kd_mk, wr_I_mk, cp_mk, gd_true, bd_ret, bd_thr, vl_none, vl_some, iN_add, iN_mul, iN_sub, iN_lt, iN_eq, iN_n, iN_m1, iN_pred, vp_iN, K0_le, nr_b0, nr_b1, m1_lt, lt_m1, iN_ne_m1, m1_ne_iN, not_lt_z, true_and, and_true, and_self, or_true, true_or, or_false, false_or, if_true, if_false, ↓reduceIte, eq_self, up_at, up_a, up_k, cp_c, cp_b, Nat.zero_add, Nat.add_zero, Nat.sub_zero, Nat.le_refl, Nat.add_sub_cancel, fu_at, fu_ne, iN_nz, n10_f, n01_f, ofN, qq_at_100, k110b, Nat.lt_irrefl, Nat.not_lt_zero, ne_eq, not_false_eq_true, not_true_eq_false, k0, r8, g9, u1, b_318_21, b_318_38, b_318_39, nr_b0]
      rfl
    · unfold OC
      rw [e1]
      exact ⟨P1, by rw [g1], fun j hj => by rw [f1], fun q => Bool.noConfusion q⟩
  | true =>
    have e1 := e0.trans (er1.trans (if_pos hb1))
    rw [hb1, b01_t] at u1
    obtain ⟨J2, u2, P2, f2, g2⟩ := c_numberM (d := d + 4) hL hT P1 (most := 1) (ix := b + 1) (by omega) (by omega)
    have er2 := rdF_n1 (T := T) [35] ((lit T [114, 114, 111, 119, 32] (pos + 1)).2) ([])
    by_cases z2 : (rdN T 1 ((lit T [114, 114, 111, 119, 32] (pos + 1)).2) 0).2 = (lit T [114, 114, 111, 119, 32] (pos + 1)).2
    · have e2 := e1.trans (er2.trans (if_pos z2))
      rw [decide_eq_false (fun q => q z2), b01_f] at u2
      rw [z2] at P2
      refine ⟨J2, ?_, ?_⟩
      · rw [e2, b_318_18]
        simp (disch := omega) only [rd_I_mk, rd_R_mk, rd_L_mk, rd_D_mk, kd_mk, wr_I_mk, cp_mk, gd_true, bd_ret, bd_thr, vl_none, vl_some, iN_add, iN_mul, iN_sub, iN_lt, iN_eq, iN_n, iN_m1, iN_pred, vp_iN, K0_le, nr_b0, nr_b1, m1_lt, lt_m1, iN_ne_m1, m1_ne_iN, not_lt_z, true_and, and_true, and_self, or_true, true_or, or_false, false_or, if_true, if_false, ↓reduceIte, eq_self, up_at, up_a, up_k, cp_c, cp_b, Nat.zero_add, Nat.add_zero, Nat.sub_zero, Nat.le_refl, Nat.add_sub_cancel, fu_at, fu_ne, iN_nz, n10_f, n01_f, ofN, qq_at_100, k110b, Nat.lt_irrefl, Nat.not_lt_zero, ne_eq, not_false_eq_true, not_true_eq_false, k0, r8, g9, u1, b_318_21, u2, b_318_28, b_318_38, b_318_39, nr_b0]
        rfl
      · unfold OC
        rw [e2]
        exact ⟨P2, by rw [g2, g1], fun j hj => by rw [f2, fu_ne (by omega), f1], fun q => Bool.noConfusion q⟩
    · have e2 := e1.trans (er2.trans (if_neg z2))
      rw [decide_eq_true z2, b01_t] at u2
      obtain ⟨J3, u3, P3, f3, g3⟩ := c_numberM (d := d + 4) hL hT P2 (most := 1) (ix := b + 2) (by omega) (by omega)
      have er3 := rdF_n1 (T := T) [] ((rdN T 1 ((lit T [114, 114, 111, 119, 32] (pos + 1)).2) 0).2) ([] ++ [(rdN T 1 ((lit T [114, 114, 111, 119, 32] (pos + 1)).2) 0).1])
      by_cases z3 : (rdN T 1 ((rdN T 1 ((lit T [114, 114, 111, 119, 32] (pos + 1)).2) 0).2) 0).2 = (rdN T 1 ((lit T [114, 114, 111, 119, 32] (pos + 1)).2) 0).2
      · have e3 := e2.trans (er3.trans (if_pos z3))
        rw [decide_eq_false (fun q => q z3), b01_f] at u3
        rw [z3] at P3
        refine ⟨J3, ?_, ?_⟩
        · rw [e3, b_318_18]
          simp (disch := omega) only [rd_I_mk, rd_R_mk, rd_L_mk, rd_D_mk, kd_mk, wr_I_mk, cp_mk, gd_true, bd_ret, bd_thr, vl_none, vl_some, iN_add, iN_mul, iN_sub, iN_lt, iN_eq, iN_n, iN_m1, iN_pred, vp_iN, K0_le, nr_b0, nr_b1, m1_lt, lt_m1, iN_ne_m1, m1_ne_iN, not_lt_z, true_and, and_true, and_self, or_true, true_or, or_false, false_or, if_true, if_false, ↓reduceIte, eq_self, up_at, up_a, up_k, cp_c, cp_b, Nat.zero_add, Nat.add_zero, Nat.sub_zero, Nat.le_refl, Nat.add_sub_cancel, fu_at, fu_ne, iN_nz, n10_f, n01_f, ofN, qq_at_100, k110b, Nat.lt_irrefl, Nat.not_lt_zero, ne_eq, not_false_eq_true, not_true_eq_false, k0, r8, g9, u1, b_318_21, u2, b_318_28, u3, b_318_35, b_318_38, b_318_39, nr_b0]
          rfl
        · unfold OC
          rw [e3]
          exact ⟨P3, by rw [g3, g2, g1], fun j hj => by rw [f3, fu_ne (by omega), f2, fu_ne (by omega), f1], fun q => Bool.noConfusion q⟩
      · have e3 := e2.trans (er3.trans (if_neg z3))
        rw [decide_eq_true z3, b01_t] at u3
        refine ⟨J3, ?_, ?_⟩
        · rw [e3, b_318_18]
          simp (disch := omega) only [rd_I_mk, rd_R_mk, rd_L_mk, rd_D_mk, kd_mk, wr_I_mk, cp_mk, gd_true, bd_ret, bd_thr, vl_none, vl_some, iN_add, iN_mul, iN_sub, iN_lt, iN_eq, iN_n, iN_m1, iN_pred, vp_iN, K0_le, nr_b0, nr_b1, m1_lt, lt_m1, iN_ne_m1, m1_ne_iN, not_lt_z, true_and, and_true, and_self, or_true, true_or, or_false, false_or, if_true, if_false, ↓reduceIte, eq_self, up_at, up_a, up_k, cp_c, cp_b, Nat.zero_add, Nat.add_zero, Nat.sub_zero, Nat.le_refl, Nat.add_sub_cancel, fu_at, fu_ne, iN_nz, n10_f, n01_f, ofN, qq_at_100, k110b, Nat.lt_irrefl, Nat.not_lt_zero, ne_eq, not_false_eq_true, not_true_eq_false, k0, r8, g9, u1, b_318_21, u2, b_318_28, u3, b_318_35, b_318_39, nr_b1]
          rfl
        · unfold OC
          rw [e3]
          refine ⟨P3, by rw [g3, g2, g1], fun j hj => by rw [f3, fu_ne (by omega), f2, fu_ne (by omega), f1], fun _ => ?_⟩
          exact Or.inr (Or.inl ⟨rfl, by rw [f3, fu_ne (by omega), f2, fu_ne (by omega), f1, hb0], by rw [f3, fu_ne (by omega), f2, fu_at]; rfl, by rw [f3, fu_at]; rfl⟩)
theorem c_rdS (hL : L_N τ m) (hT : TP I m T) (hS : ∀ p ∈ ktab, St I τ p.1 p.2) (hP : PS m I T J (pos + 1)) (hb : b + 5 ≤ 155) (hs : sg T pos = 115) (hb0 : J (m + 9) b = iN 115) (x1 : Int32) : ∃ J', RR (d + 6) 318 40 [some (.ref m), some (.int x1), some (.int (iN b))] [] (J, τ) = some (.inl (some (.int (b01 (rdF T (frm 2) pos []).1))), (J', τ)) ∧ OC m I T J J' b 2 pos := by
  obtain ⟨m70, k0, r0, r1, r2, r3, r4, r5, r6, r7, r8, g1, g2, g3, g4, g5, g6, g7, g8, g9⟩ := id hL
  have e0 : rdF T (frm 2) pos [] = rdF T [116, 97, 116, 117, 101, 32, 35, 32, 37] (pos + 1) [] := (rdF_c (T := T) (ch := 115) (by decide) [116, 97, 116, 117, 101, 32, 35, 32, 37] pos []).trans (if_pos hs)
  obtain ⟨J1, u1, P1, f1, g1⟩ := c_takesAll (d := d + 1) hL hT (hS (19, [116, 97, 116, 117, 101, 32]) (by decide)) (by decide) hP
  have er1 := rdF_lit (T := T) [35, 32, 37] [116, 97, 116, 117, 101, 32] (pos + 1) ([]) (by decide)
  cases hb1 : (lit T [116, 97, 116, 117, 101, 32] (pos + 1)).1 with
  | false =>
    have e1 := e0.trans (er1.trans (if_neg (by rw [hb1]; decide)))
    rw [hb1, b01_f] at u1
    refine ⟨J1, ?_, ?_⟩
    · rw [e1, b_318_40]
      simp (disch := omega) only [rd_I_mk, rd_R_mk, rd_L_mk, rd_D_mk, kd_mk, wr_I_mk, cp_mk, gd_true, bd_ret, bd_thr, vl_none, vl_some, iN_add, iN_mul, iN_sub, iN_lt, iN_eq, iN_n, iN_m1, iN_pred, vp_iN, K0_le, nr_b0, nr_b1, m1_lt, lt_m1, iN_ne_m1, m1_ne_iN, not_lt_z, true_and, and_true, and_self, or_true, true_or, or_false, false_or, if_true, if_false, ↓reduceIte, eq_self, up_at, up_a, up_k, cp_c, cp_b, Nat.zero_add, Nat.add_zero, Nat.sub_zero, Nat.le_refl, Nat.add_sub_cancel, fu_at, fu_ne, iN_nz, n10_f, n01_f, ofN, qq_at_100, k110b, Nat.lt_irrefl, Nat.not_lt_zero, ne_eq, not_false_eq_true, not_true_eq_false, k0, r8, g9, u1, b_318_43, b_318_64, b_318_65, nr_b0]
      rfl
    · unfold OC
      rw [e1]
      exact ⟨P1, by rw [g1], fun j hj => by rw [f1], fun q => Bool.noConfusion q⟩
  | true =>
    have e1 := e0.trans (er1.trans (if_pos hb1))
    rw [hb1, b01_t] at u1
    obtain ⟨J2, u2, P2, f2, g2⟩ := c_numberM (d := d + 4) hL hT P1 (most := 1) (ix := b + 1) (by omega) (by omega)
    have er2 := rdF_n1 (T := T) [32, 37] ((lit T [116, 97, 116, 117, 101, 32] (pos + 1)).2) ([])
    by_cases z2 : (rdN T 1 ((lit T [116, 97, 116, 117, 101, 32] (pos + 1)).2) 0).2 = (lit T [116, 97, 116, 117, 101, 32] (pos + 1)).2
    · have e2 := e1.trans (er2.trans (if_pos z2))
      rw [decide_eq_false (fun q => q z2), b01_f] at u2
      rw [z2] at P2
      refine ⟨J2, ?_, ?_⟩
      · rw [e2, b_318_40]
        simp (disch := omega) only [rd_I_mk, rd_R_mk, rd_L_mk, rd_D_mk, kd_mk, wr_I_mk, cp_mk, gd_true, bd_ret, bd_thr, vl_none, vl_some, iN_add, iN_mul, iN_sub, iN_lt, iN_eq, iN_n, iN_m1, iN_pred, vp_iN, K0_le, nr_b0, nr_b1, m1_lt, lt_m1, iN_ne_m1, m1_ne_iN, not_lt_z, true_and, and_true, and_self, or_true, true_or, or_false, false_or, if_true, if_false, ↓reduceIte, eq_self, up_at, up_a, up_k, cp_c, cp_b, Nat.zero_add, Nat.add_zero, Nat.sub_zero, Nat.le_refl, Nat.add_sub_cancel, fu_at, fu_ne, iN_nz, n10_f, n01_f, ofN, qq_at_100, k110b, Nat.lt_irrefl, Nat.not_lt_zero, ne_eq, not_false_eq_true, not_true_eq_false, k0, r8, g9, u1, b_318_43, u2, b_318_50, b_318_64, b_318_65, nr_b0]
        rfl
      · unfold OC
        rw [e2]
        exact ⟨P2, by rw [g2, g1], fun j hj => by rw [f2, fu_ne (by omega), f1], fun q => Bool.noConfusion q⟩
    · have e2 := e1.trans (er2.trans (if_neg z2))
      rw [decide_eq_true z2, b01_t] at u2
      obtain ⟨J3, u3, P3, f3, g3⟩ := c_takes (d := d + 4) hL hT P2 (ch := 32) (by omega) (by omega)
      have er3 := rdF_c (T := T) (ch := 32) (by decide) [37] ((rdN T 1 ((lit T [116, 97, 116, 117, 101, 32] (pos + 1)).2) 0).2) ([] ++ [(rdN T 1 ((lit T [116, 97, 116, 117, 101, 32] (pos + 1)).2) 0).1])
      by_cases z3 : sg T ((rdN T 1 ((lit T [116, 97, 116, 117, 101, 32] (pos + 1)).2) 0).2) = 32
      · have e3 := e2.trans (er3.trans (if_pos z3))
        rw [decide_eq_true z3, b01_t] at u3
        rw [if_pos z3] at P3
        obtain ⟨J4, u4, P4, f4, g4⟩ := c_numberM (d := d + 4) hL hT P3 (most := 3) (ix := b + 2) (by omega) (by omega)
        have er4 := rdF_n3 (T := T) [] ((rdN T 1 ((lit T [116, 97, 116, 117, 101, 32] (pos + 1)).2) 0).2 + 1) ([] ++ [(rdN T 1 ((lit T [116, 97, 116, 117, 101, 32] (pos + 1)).2) 0).1])
        by_cases z4 : (rdN T 3 ((rdN T 1 ((lit T [116, 97, 116, 117, 101, 32] (pos + 1)).2) 0).2 + 1) 0).2 = (rdN T 1 ((lit T [116, 97, 116, 117, 101, 32] (pos + 1)).2) 0).2 + 1
        · have e4 := e3.trans (er4.trans (if_pos z4))
          rw [decide_eq_false (fun q => q z4), b01_f] at u4
          rw [z4] at P4
          refine ⟨J4, ?_, ?_⟩
          · rw [e4, b_318_40]
            simp (disch := omega) only [rd_I_mk, rd_R_mk, rd_L_mk, rd_D_mk, kd_mk, wr_I_mk, cp_mk, gd_true, bd_ret, bd_thr, vl_none, vl_some, iN_add, iN_mul, iN_sub, iN_lt, iN_eq, iN_n, iN_m1, iN_pred, vp_iN, K0_le, nr_b0, nr_b1, m1_lt, lt_m1, iN_ne_m1, m1_ne_iN, not_lt_z, true_and, and_true, and_self, or_true, true_or, or_false, false_or, if_true, if_false, ↓reduceIte, eq_self, up_at, up_a, up_k, cp_c, cp_b, Nat.zero_add, Nat.add_zero, Nat.sub_zero, Nat.le_refl, Nat.add_sub_cancel, fu_at, fu_ne, iN_nz, n10_f, n01_f, ofN, qq_at_100, k110b, Nat.lt_irrefl, Nat.not_lt_zero, ne_eq, not_false_eq_true, not_true_eq_false, k0, r8, g9, u1, b_318_43, u2, b_318_50, u3, b_318_54, u4, b_318_61, b_318_64, b_318_65, nr_b0]
            rfl
          · unfold OC
            rw [e4]
            exact ⟨P4, by rw [g4, g3, g2, g1], fun j hj => by rw [f4, fu_ne (by omega), f3, f2, fu_ne (by omega), f1], fun q => Bool.noConfusion q⟩
        · have e4 := e3.trans (er4.trans (if_neg z4))
          rw [decide_eq_true z4, b01_t] at u4
          refine ⟨J4, ?_, ?_⟩
          · rw [e4, b_318_40]
            simp (disch := omega) only [rd_I_mk, rd_R_mk, rd_L_mk, rd_D_mk, kd_mk, wr_I_mk, cp_mk, gd_true, bd_ret, bd_thr, vl_none, vl_some, iN_add, iN_mul, iN_sub, iN_lt, iN_eq, iN_n, iN_m1, iN_pred, vp_iN, K0_le, nr_b0, nr_b1, m1_lt, lt_m1, iN_ne_m1, m1_ne_iN, not_lt_z, true_and, and_true, and_self, or_true, true_or, or_false, false_or, if_true, if_false, ↓reduceIte, eq_self, up_at, up_a, up_k, cp_c, cp_b, Nat.zero_add, Nat.add_zero, Nat.sub_zero, Nat.le_refl, Nat.add_sub_cancel, fu_at, fu_ne, iN_nz, n10_f, n01_f, ofN, qq_at_100, k110b, Nat.lt_irrefl, Nat.not_lt_zero, ne_eq, not_false_eq_true, not_true_eq_false, k0, r8, g9, u1, b_318_43, u2, b_318_50, u3, b_318_54, u4, b_318_61, b_318_65, nr_b1]
            rfl
          · unfold OC
            rw [e4]
            refine ⟨P4, by rw [g4, g3, g2, g1], fun j hj => by rw [f4, fu_ne (by omega), f3, f2, fu_ne (by omega), f1], fun _ => ?_⟩
            exact Or.inr (Or.inr (Or.inl ⟨rfl, by rw [f4, fu_ne (by omega), f3, f2, fu_ne (by omega), f1, hb0], by rw [f4, fu_ne (by omega), f3, f2, fu_at]; rfl, by rw [f4, fu_at]; rfl⟩))
      · have e3 := e2.trans (er3.trans (if_neg z3))
        rw [decide_eq_false z3, b01_f] at u3
        rw [if_neg z3] at P3
        refine ⟨J3, ?_, ?_⟩
        · rw [e3, b_318_40]
          simp (disch := omega) only [rd_I_mk, rd_R_mk, rd_L_mk, rd_D_mk, kd_mk, wr_I_mk, cp_mk, gd_true, bd_ret, bd_thr, vl_none, vl_some, iN_add, iN_mul, iN_sub, iN_lt, iN_eq, iN_n, iN_m1, iN_pred, vp_iN, K0_le, nr_b0, nr_b1, m1_lt, lt_m1, iN_ne_m1, m1_ne_iN, not_lt_z, true_and, and_true, and_self, or_true, true_or, or_false, false_or, if_true, if_false, ↓reduceIte, eq_self, up_at, up_a, up_k, cp_c, cp_b, Nat.zero_add, Nat.add_zero, Nat.sub_zero, Nat.le_refl, Nat.add_sub_cancel, fu_at, fu_ne, iN_nz, n10_f, n01_f, ofN, qq_at_100, k110b, Nat.lt_irrefl, Nat.not_lt_zero, ne_eq, not_false_eq_true, not_true_eq_false, k0, r8, g9, u1, b_318_43, u2, b_318_50, u3, b_318_54, b_318_64, b_318_65, nr_b0]
          rfl
        · unfold OC
          rw [e3]
          exact ⟨P3, by rw [g3, g2, g1], fun j hj => by rw [f3, f2, fu_ne (by omega), f1], fun q => Bool.noConfusion q⟩
theorem c_rdB (hL : L_N τ m) (hT : TP I m T) (hS : ∀ p ∈ ktab, St I τ p.1 p.2) (hP : PS m I T J (pos + 1)) (hb : b + 5 ≤ 155) (hs : sg T pos = 98) (hb0 : J (m + 9) b = iN 98) (x1 : Int32) : ∃ J', RR (d + 6) 318 66 [some (.ref m), some (.int x1), some (.int (iN b))] [] (J, τ) = some (.inl (some (.int (b01 (rdF T (frm 5) pos []).1))), (J', τ)) ∧ OC m I T J J' b 5 pos := by
  obtain ⟨m70, k0, r0, r1, r2, r3, r4, r5, r6, r7, r8, g1, g2, g3, g4, g5, g6, g7, g8, g9⟩ := id hL
  have e0 : rdF T (frm 5) pos [] = rdF T [108, 111, 99, 107, 32, 37, 32, 35] (pos + 1) [] := (rdF_c (T := T) (ch := 98) (by decide) [108, 111, 99, 107, 32, 37, 32, 35] pos []).trans (if_pos hs)
  obtain ⟨J1, u1, P1, f1, g1⟩ := c_takesAll (d := d + 1) hL hT (hS (21, [108, 111, 99, 107, 32]) (by decide)) (by decide) hP
  have er1 := rdF_lit (T := T) [37, 32, 35] [108, 111, 99, 107, 32] (pos + 1) ([]) (by decide)
  cases hb1 : (lit T [108, 111, 99, 107, 32] (pos + 1)).1 with
  | false =>
    have e1 := e0.trans (er1.trans (if_neg (by rw [hb1]; decide)))
    rw [hb1, b01_f] at u1
    refine ⟨J1, ?_, ?_⟩
    · rw [e1, b_318_66]
      simp (disch := omega) only [rd_I_mk, rd_R_mk, rd_L_mk, rd_D_mk, kd_mk, wr_I_mk, cp_mk, gd_true, bd_ret, bd_thr, vl_none, vl_some, iN_add, iN_mul, iN_sub, iN_lt, iN_eq, iN_n, iN_m1, iN_pred, vp_iN, K0_le, nr_b0, nr_b1, m1_lt, lt_m1, iN_ne_m1, m1_ne_iN, not_lt_z, true_and, and_true, and_self, or_true, true_or, or_false, false_or, if_true, if_false, ↓reduceIte, eq_self, up_at, up_a, up_k, cp_c, cp_b, Nat.zero_add, Nat.add_zero, Nat.sub_zero, Nat.le_refl, Nat.add_sub_cancel, fu_at, fu_ne, iN_nz, n10_f, n01_f, ofN, qq_at_100, k110b, Nat.lt_irrefl, Nat.not_lt_zero, ne_eq, not_false_eq_true, not_true_eq_false, k0, r8, g9, u1, b_318_69, b_318_90, b_318_91, nr_b0]
      rfl
    · unfold OC
      rw [e1]
      exact ⟨P1, by rw [g1], fun j hj => by rw [f1], fun q => Bool.noConfusion q⟩
  | true =>
    have e1 := e0.trans (er1.trans (if_pos hb1))
    rw [hb1, b01_t] at u1
    obtain ⟨J2, u2, P2, f2, g2⟩ := c_numberM (d := d + 4) hL hT P1 (most := 3) (ix := b + 1) (by omega) (by omega)
    have er2 := rdF_n3 (T := T) [32, 35] ((lit T [108, 111, 99, 107, 32] (pos + 1)).2) ([])
    by_cases z2 : (rdN T 3 ((lit T [108, 111, 99, 107, 32] (pos + 1)).2) 0).2 = (lit T [108, 111, 99, 107, 32] (pos + 1)).2
    · have e2 := e1.trans (er2.trans (if_pos z2))
      rw [decide_eq_false (fun q => q z2), b01_f] at u2
      rw [z2] at P2
      refine ⟨J2, ?_, ?_⟩
      · rw [e2, b_318_66]
        simp (disch := omega) only [rd_I_mk, rd_R_mk, rd_L_mk, rd_D_mk, kd_mk, wr_I_mk, cp_mk, gd_true, bd_ret, bd_thr, vl_none, vl_some, iN_add, iN_mul, iN_sub, iN_lt, iN_eq, iN_n, iN_m1, iN_pred, vp_iN, K0_le, nr_b0, nr_b1, m1_lt, lt_m1, iN_ne_m1, m1_ne_iN, not_lt_z, true_and, and_true, and_self, or_true, true_or, or_false, false_or, if_true, if_false, ↓reduceIte, eq_self, up_at, up_a, up_k, cp_c, cp_b, Nat.zero_add, Nat.add_zero, Nat.sub_zero, Nat.le_refl, Nat.add_sub_cancel, fu_at, fu_ne, iN_nz, n10_f, n01_f, ofN, qq_at_100, k110b, Nat.lt_irrefl, Nat.not_lt_zero, ne_eq, not_false_eq_true, not_true_eq_false, k0, r8, g9, u1, b_318_69, u2, b_318_76, b_318_90, b_318_91, nr_b0]
        rfl
      · unfold OC
        rw [e2]
        exact ⟨P2, by rw [g2, g1], fun j hj => by rw [f2, fu_ne (by omega), f1], fun q => Bool.noConfusion q⟩
    · have e2 := e1.trans (er2.trans (if_neg z2))
      rw [decide_eq_true z2, b01_t] at u2
      obtain ⟨J3, u3, P3, f3, g3⟩ := c_takes (d := d + 4) hL hT P2 (ch := 32) (by omega) (by omega)
      have er3 := rdF_c (T := T) (ch := 32) (by decide) [35] ((rdN T 3 ((lit T [108, 111, 99, 107, 32] (pos + 1)).2) 0).2) ([] ++ [(rdN T 3 ((lit T [108, 111, 99, 107, 32] (pos + 1)).2) 0).1])
      by_cases z3 : sg T ((rdN T 3 ((lit T [108, 111, 99, 107, 32] (pos + 1)).2) 0).2) = 32
      · have e3 := e2.trans (er3.trans (if_pos z3))
        rw [decide_eq_true z3, b01_t] at u3
        rw [if_pos z3] at P3
        obtain ⟨J4, u4, P4, f4, g4⟩ := c_numberM (d := d + 4) hL hT P3 (most := 1) (ix := b + 2) (by omega) (by omega)
        have er4 := rdF_n1 (T := T) [] ((rdN T 3 ((lit T [108, 111, 99, 107, 32] (pos + 1)).2) 0).2 + 1) ([] ++ [(rdN T 3 ((lit T [108, 111, 99, 107, 32] (pos + 1)).2) 0).1])
        by_cases z4 : (rdN T 1 ((rdN T 3 ((lit T [108, 111, 99, 107, 32] (pos + 1)).2) 0).2 + 1) 0).2 = (rdN T 3 ((lit T [108, 111, 99, 107, 32] (pos + 1)).2) 0).2 + 1
        · have e4 := e3.trans (er4.trans (if_pos z4))
          rw [decide_eq_false (fun q => q z4), b01_f] at u4
          rw [z4] at P4
          refine ⟨J4, ?_, ?_⟩
          · rw [e4, b_318_66]
            simp (disch := omega) only [rd_I_mk, rd_R_mk, rd_L_mk, rd_D_mk, kd_mk, wr_I_mk, cp_mk, gd_true, bd_ret, bd_thr, vl_none, vl_some, iN_add, iN_mul, iN_sub, iN_lt, iN_eq, iN_n, iN_m1, iN_pred, vp_iN, K0_le, nr_b0, nr_b1, m1_lt, lt_m1, iN_ne_m1, m1_ne_iN, not_lt_z, true_and, and_true, and_self, or_true, true_or, or_false, false_or, if_true, if_false, ↓reduceIte, eq_self, up_at, up_a, up_k, cp_c, cp_b, Nat.zero_add, Nat.add_zero, Nat.sub_zero, Nat.le_refl, Nat.add_sub_cancel, fu_at, fu_ne, iN_nz, n10_f, n01_f, ofN, qq_at_100, k110b, Nat.lt_irrefl, Nat.not_lt_zero, ne_eq, not_false_eq_true, not_true_eq_false, k0, r8, g9, u1, b_318_69, u2, b_318_76, u3, b_318_80, u4, b_318_87, b_318_90, b_318_91, nr_b0]
            rfl
          · unfold OC
            rw [e4]
            exact ⟨P4, by rw [g4, g3, g2, g1], fun j hj => by rw [f4, fu_ne (by omega), f3, f2, fu_ne (by omega), f1], fun q => Bool.noConfusion q⟩
        · have e4 := e3.trans (er4.trans (if_neg z4))
          rw [decide_eq_true z4, b01_t] at u4
          refine ⟨J4, ?_, ?_⟩
          · rw [e4, b_318_66]
            simp (disch := omega) only [rd_I_mk, rd_R_mk, rd_L_mk, rd_D_mk, kd_mk, wr_I_mk, cp_mk, gd_true, bd_ret, bd_thr, vl_none, vl_some, iN_add, iN_mul, iN_sub, iN_lt, iN_eq, iN_n, iN_m1, iN_pred, vp_iN, K0_le, nr_b0, nr_b1, m1_lt, lt_m1, iN_ne_m1, m1_ne_iN, not_lt_z, true_and, and_true, and_self, or_true, true_or, or_false, false_or, if_true, if_false, ↓reduceIte, eq_self, up_at, up_a, up_k, cp_c, cp_b, Nat.zero_add, Nat.add_zero, Nat.sub_zero, Nat.le_refl, Nat.add_sub_cancel, fu_at, fu_ne, iN_nz, n10_f, n01_f, ofN, qq_at_100, k110b, Nat.lt_irrefl, Nat.not_lt_zero, ne_eq, not_false_eq_true, not_true_eq_false, k0, r8, g9, u1, b_318_69, u2, b_318_76, u3, b_318_80, u4, b_318_87, b_318_91, nr_b1]
            rfl
          · unfold OC
            rw [e4]
            refine ⟨P4, by rw [g4, g3, g2, g1], fun j hj => by rw [f4, fu_ne (by omega), f3, f2, fu_ne (by omega), f1], fun _ => ?_⟩
            exact Or.inr (Or.inr (Or.inr (Or.inr (Or.inr (Or.inr (Or.inl ⟨rfl, by rw [f4, fu_ne (by omega), f3, f2, fu_ne (by omega), f1, hb0], by rw [f4, fu_ne (by omega), f3, f2, fu_at]; rfl, by rw [f4, fu_at]; rfl⟩))))))
      · have e3 := e2.trans (er3.trans (if_neg z3))
        rw [decide_eq_false z3, b01_f] at u3
        rw [if_neg z3] at P3
        refine ⟨J3, ?_, ?_⟩
        · rw [e3, b_318_66]
          simp (disch := omega) only [rd_I_mk, rd_R_mk, rd_L_mk, rd_D_mk, kd_mk, wr_I_mk, cp_mk, gd_true, bd_ret, bd_thr, vl_none, vl_some, iN_add, iN_mul, iN_sub, iN_lt, iN_eq, iN_n, iN_m1, iN_pred, vp_iN, K0_le, nr_b0, nr_b1, m1_lt, lt_m1, iN_ne_m1, m1_ne_iN, not_lt_z, true_and, and_true, and_self, or_true, true_or, or_false, false_or, if_true, if_false, ↓reduceIte, eq_self, up_at, up_a, up_k, cp_c, cp_b, Nat.zero_add, Nat.add_zero, Nat.sub_zero, Nat.le_refl, Nat.add_sub_cancel, fu_at, fu_ne, iN_nz, n10_f, n01_f, ofN, qq_at_100, k110b, Nat.lt_irrefl, Nat.not_lt_zero, ne_eq, not_false_eq_true, not_true_eq_false, k0, r8, g9, u1, b_318_69, u2, b_318_76, u3, b_318_80, b_318_90, b_318_91, nr_b0]
          rfl
        · unfold OC
          rw [e3]
          exact ⟨P3, by rw [g3, g2, g1], fun j hj => by rw [f3, f2, fu_ne (by omega), f1], fun q => Bool.noConfusion q⟩
theorem c_rdW (hL : L_N τ m) (hT : TP I m T) (hS : ∀ p ∈ ktab, St I τ p.1 p.2) (hP : PS m I T J (pos + 1)) (hb : b + 5 ≤ 155) (hs : sg T pos = 119) (hb0 : J (m + 9) b = iN 119) : ∃ J', CC (d + 5) 316 [.ref m, .int (iN b)] (J, τ) = some (.inl (some (.int (b01 (rdF T (frm 4) pos []).1))), (J', τ)) ∧ OC m I T J J' b 4 pos := by
  obtain ⟨m70, k0, r0, r1, r2, r3, r4, r5, r6, r7, r8, g1, g2, g3, g4, g5, g6, g7, g8, g9⟩ := id hL
  have e0 : rdF T (frm 4) pos [] = rdF T [114, 105, 116, 32, 35, 32, 37, 32, 37, 91, 60, 37, 93] (pos + 1) [] := (rdF_c (T := T) (ch := 119) (by decide) [114, 105, 116, 32, 35, 32, 37, 32, 37, 91, 60, 37, 93] pos []).trans (if_pos hs)
  obtain ⟨J1, u1, P1, f1, g1⟩ := c_takesAll (d := d + 0) hL hT (hS (13, [114, 105, 116, 32]) (by decide)) (by decide) hP
  have er1 := rdF_lit (T := T) [35, 32, 37, 32, 37, 91, 60, 37, 93] [114, 105, 116, 32] (pos + 1) ([]) (by decide)
  cases hb1 : (lit T [114, 105, 116, 32] (pos + 1)).1 with
  | false =>
    have e1 := e0.trans (er1.trans (if_neg (by rw [hb1]; decide)))
    rw [hb1, b01_f] at u1
    refine ⟨J1, ?_, ?_⟩
    · rw [e1, c_316, b_316_0]
      simp (disch := omega) only [rd_I_mk, rd_R_mk, rd_L_mk, rd_D_mk, kd_mk, wr_I_mk, cp_mk, gd_true, bd_ret, bd_thr, vl_none, vl_some, iN_add, iN_mul, iN_sub, iN_lt, iN_eq, iN_n, iN_m1, iN_pred, vp_iN, K0_le, nr_b0, nr_b1, m1_lt, lt_m1, iN_ne_m1, m1_ne_iN, not_lt_z, true_and, and_true, and_self, or_true, true_or, or_false, false_or, if_true, if_false, ↓reduceIte, eq_self, up_at, up_a, up_k, cp_c, cp_b, Nat.zero_add, Nat.add_zero, Nat.sub_zero, Nat.le_refl, Nat.add_sub_cancel, fu_at, fu_ne, iN_nz, n10_f, n01_f, ofN, qq_at_100, k110b, Nat.lt_irrefl, Nat.not_lt_zero, ne_eq, not_false_eq_true, not_true_eq_false, k0, r8, g9, u1, b_316_3, b_316_33, nr_b0]
      rfl
    · unfold OC
      rw [e1]
      exact ⟨P1, by rw [g1], fun j hj => by rw [f1], fun q => Bool.noConfusion q⟩
  | true =>
    have e1 := e0.trans (er1.trans (if_pos hb1))
    rw [hb1, b01_t] at u1
    obtain ⟨J2, u2, P2, f2, g2⟩ := c_numberM (d := d + 3) hL hT P1 (most := 1) (ix := b + 1) (by omega) (by omega)
    have er2 := rdF_n1 (T := T) [32, 37, 32, 37, 91, 60, 37, 93] ((lit T [114, 105, 116, 32] (pos + 1)).2) ([])
    by_cases z2 : (rdN T 1 ((lit T [114, 105, 116, 32] (pos + 1)).2) 0).2 = (lit T [114, 105, 116, 32] (pos + 1)).2
    · have e2 := e1.trans (er2.trans (if_pos z2))
      rw [decide_eq_false (fun q => q z2), b01_f] at u2
      rw [z2] at P2
      refine ⟨J2, ?_, ?_⟩
      · rw [e2, c_316, b_316_0]
        simp (disch := omega) only [rd_I_mk, rd_R_mk, rd_L_mk, rd_D_mk, kd_mk, wr_I_mk, cp_mk, gd_true, bd_ret, bd_thr, vl_none, vl_some, iN_add, iN_mul, iN_sub, iN_lt, iN_eq, iN_n, iN_m1, iN_pred, vp_iN, K0_le, nr_b0, nr_b1, m1_lt, lt_m1, iN_ne_m1, m1_ne_iN, not_lt_z, true_and, and_true, and_self, or_true, true_or, or_false, false_or, if_true, if_false, ↓reduceIte, eq_self, up_at, up_a, up_k, cp_c, cp_b, Nat.zero_add, Nat.add_zero, Nat.sub_zero, Nat.le_refl, Nat.add_sub_cancel, fu_at, fu_ne, iN_nz, n10_f, n01_f, ofN, qq_at_100, k110b, Nat.lt_irrefl, Nat.not_lt_zero, ne_eq, not_false_eq_true, not_true_eq_false, k0, r8, g9, u1, b_316_3, u2, b_316_10, b_316_33, nr_b0]
        rfl
      · unfold OC
        rw [e2]
        exact ⟨P2, by rw [g2, g1], fun j hj => by rw [f2, fu_ne (by omega), f1], fun q => Bool.noConfusion q⟩
    · have e2 := e1.trans (er2.trans (if_neg z2))
      rw [decide_eq_true z2, b01_t] at u2
      obtain ⟨J3, u3, P3, f3, g3⟩ := c_takes (d := d + 3) hL hT P2 (ch := 32) (by omega) (by omega)
      have er3 := rdF_c (T := T) (ch := 32) (by decide) [37, 32, 37, 91, 60, 37, 93] ((rdN T 1 ((lit T [114, 105, 116, 32] (pos + 1)).2) 0).2) ([] ++ [(rdN T 1 ((lit T [114, 105, 116, 32] (pos + 1)).2) 0).1])
      by_cases z3 : sg T ((rdN T 1 ((lit T [114, 105, 116, 32] (pos + 1)).2) 0).2) = 32
      · have e3 := e2.trans (er3.trans (if_pos z3))
        rw [decide_eq_true z3, b01_t] at u3
        rw [if_pos z3] at P3
        obtain ⟨J4, u4, P4, f4, g4⟩ := c_numberM (d := d + 3) hL hT P3 (most := 3) (ix := b + 2) (by omega) (by omega)
        have er4 := rdF_n3 (T := T) [32, 37, 91, 60, 37, 93] ((rdN T 1 ((lit T [114, 105, 116, 32] (pos + 1)).2) 0).2 + 1) ([] ++ [(rdN T 1 ((lit T [114, 105, 116, 32] (pos + 1)).2) 0).1])
        by_cases z4 : (rdN T 3 ((rdN T 1 ((lit T [114, 105, 116, 32] (pos + 1)).2) 0).2 + 1) 0).2 = (rdN T 1 ((lit T [114, 105, 116, 32] (pos + 1)).2) 0).2 + 1
        · have e4 := e3.trans (er4.trans (if_pos z4))
          rw [decide_eq_false (fun q => q z4), b01_f] at u4
          rw [z4] at P4
          refine ⟨J4, ?_, ?_⟩
          · rw [e4, c_316, b_316_0]
            simp (disch := omega) only [rd_I_mk, rd_R_mk, rd_L_mk, rd_D_mk, kd_mk, wr_I_mk, cp_mk, gd_true, bd_ret, bd_thr, vl_none, vl_some, iN_add, iN_mul, iN_sub, iN_lt, iN_eq, iN_n, iN_m1, iN_pred, vp_iN, K0_le, nr_b0, nr_b1, m1_lt, lt_m1, iN_ne_m1, m1_ne_iN, not_lt_z, true_and, and_true, and_self, or_true, true_or, or_false, false_or, if_true, if_false, ↓reduceIte, eq_self, up_at, up_a, up_k, cp_c, cp_b, Nat.zero_add, Nat.add_zero, Nat.sub_zero, Nat.le_refl, Nat.add_sub_cancel, fu_at, fu_ne, iN_nz, n10_f, n01_f, ofN, qq_at_100, k110b, Nat.lt_irrefl, Nat.not_lt_zero, ne_eq, not_false_eq_true, not_true_eq_false, k0, r8, g9, u1, b_316_3, u2, b_316_10, u3, b_316_14, u4, b_316_21, b_316_33, nr_b0]
            rfl
          · unfold OC
            rw [e4]
            exact ⟨P4, by rw [g4, g3, g2, g1], fun j hj => by rw [f4, fu_ne (by omega), f3, f2, fu_ne (by omega), f1], fun q => Bool.noConfusion q⟩
        · have e4 := e3.trans (er4.trans (if_neg z4))
          rw [decide_eq_true z4, b01_t] at u4
          obtain ⟨J5, u5, P5, f5, g5⟩ := c_takes (d := d + 3) hL hT P4 (ch := 32) (by omega) (by omega)
          have er5 := rdF_c (T := T) (ch := 32) (by decide) [37, 91, 60, 37, 93] ((rdN T 3 ((rdN T 1 ((lit T [114, 105, 116, 32] (pos + 1)).2) 0).2 + 1) 0).2) ([] ++ [(rdN T 1 ((lit T [114, 105, 116, 32] (pos + 1)).2) 0).1] ++ [(rdN T 3 ((rdN T 1 ((lit T [114, 105, 116, 32] (pos + 1)).2) 0).2 + 1) 0).1])
          by_cases z5 : sg T ((rdN T 3 ((rdN T 1 ((lit T [114, 105, 116, 32] (pos + 1)).2) 0).2 + 1) 0).2) = 32
          · have e5 := e4.trans (er5.trans (if_pos z5))
            rw [decide_eq_true z5, b01_t] at u5
            rw [if_pos z5] at P5
            obtain ⟨J6, u6, P6, f6, g6⟩ := c_numberM (d := d + 3) hL hT P5 (most := 3) (ix := b + 3) (by omega) (by omega)
            have er6 := rdF_n3 (T := T) [91, 60, 37, 93] ((rdN T 3 ((rdN T 1 ((lit T [114, 105, 116, 32] (pos + 1)).2) 0).2 + 1) 0).2 + 1) ([] ++ [(rdN T 1 ((lit T [114, 105, 116, 32] (pos + 1)).2) 0).1] ++ [(rdN T 3 ((rdN T 1 ((lit T [114, 105, 116, 32] (pos + 1)).2) 0).2 + 1) 0).1])
            by_cases z6 : (rdN T 3 ((rdN T 3 ((rdN T 1 ((lit T [114, 105, 116, 32] (pos + 1)).2) 0).2 + 1) 0).2 + 1) 0).2 = (rdN T 3 ((rdN T 1 ((lit T [114, 105, 116, 32] (pos + 1)).2) 0).2 + 1) 0).2 + 1
            · have e6 := e5.trans (er6.trans (if_pos z6))
              rw [decide_eq_false (fun q => q z6), b01_f] at u6
              rw [z6] at P6
              refine ⟨J6, ?_, ?_⟩
              · rw [e6, c_316, b_316_0]
                simp (disch := omega) only [rd_I_mk, rd_R_mk, rd_L_mk, rd_D_mk, kd_mk, wr_I_mk, cp_mk, gd_true, bd_ret, bd_thr, vl_none, vl_some, iN_add, iN_mul, iN_sub, iN_lt, iN_eq, iN_n, iN_m1, iN_pred, vp_iN, K0_le, nr_b0, nr_b1, m1_lt, lt_m1, iN_ne_m1, m1_ne_iN, not_lt_z, true_and, and_true, and_self, or_true, true_or, or_false, false_or, if_true, if_false, ↓reduceIte, eq_self, up_at, up_a, up_k, cp_c, cp_b, Nat.zero_add, Nat.add_zero, Nat.sub_zero, Nat.le_refl, Nat.add_sub_cancel, fu_at, fu_ne, iN_nz, n10_f, n01_f, ofN, qq_at_100, k110b, Nat.lt_irrefl, Nat.not_lt_zero, ne_eq, not_false_eq_true, not_true_eq_false, k0, r8, g9, u1, b_316_3, u2, b_316_10, u3, b_316_14, u4, b_316_21, u5, b_316_25, u6, b_316_32, b_316_33, nr_b0]
                rfl
              · unfold OC
                rw [e6]
                exact ⟨P6, by rw [g6, g5, g4, g3, g2, g1], fun j hj => by rw [f6, fu_ne (by omega), f5, f4, fu_ne (by omega), f3, f2, fu_ne (by omega), f1], fun q => Bool.noConfusion q⟩
            · have e6 := e5.trans (er6.trans (if_neg z6))
              rw [decide_eq_true z6, b01_t] at u6
              obtain ⟨J7, u7, P7, f7, g7⟩ := c_takes (d := d + 3) hL hT P6 (ch := 60) (by omega) (by omega)
              have er7 := rdF_o (T := T) 60 [37, 93] ((rdN T 3 ((rdN T 3 ((rdN T 1 ((lit T [114, 105, 116, 32] (pos + 1)).2) 0).2 + 1) 0).2 + 1) 0).2) ([] ++ [(rdN T 1 ((lit T [114, 105, 116, 32] (pos + 1)).2) 0).1] ++ [(rdN T 3 ((rdN T 1 ((lit T [114, 105, 116, 32] (pos + 1)).2) 0).2 + 1) 0).1] ++ [(rdN T 3 ((rdN T 3 ((rdN T 1 ((lit T [114, 105, 116, 32] (pos + 1)).2) 0).2 + 1) 0).2 + 1) 0).1])
              have es7 := rdF_c (T := T) (ch := 60) (by decide) [37, 93] ((rdN T 3 ((rdN T 3 ((rdN T 1 ((lit T [114, 105, 116, 32] (pos + 1)).2) 0).2 + 1) 0).2 + 1) 0).2) ([] ++ [(rdN T 1 ((lit T [114, 105, 116, 32] (pos + 1)).2) 0).1] ++ [(rdN T 3 ((rdN T 1 ((lit T [114, 105, 116, 32] (pos + 1)).2) 0).2 + 1) 0).1] ++ [(rdN T 3 ((rdN T 3 ((rdN T 1 ((lit T [114, 105, 116, 32] (pos + 1)).2) 0).2 + 1) 0).2 + 1) 0).1])
              by_cases z7 : sg T ((rdN T 3 ((rdN T 3 ((rdN T 1 ((lit T [114, 105, 116, 32] (pos + 1)).2) 0).2 + 1) 0).2 + 1) 0).2) = 60
              · have e7 := e6.trans (er7.trans ((if_pos z7).trans (es7.trans (if_pos z7))))
                rw [decide_eq_true z7, b01_t] at u7
                rw [if_pos z7] at P7
                obtain ⟨P7', f7', g7'⟩ := PS_up (i := b) (v := iN 102) P7
                obtain ⟨J8, u8, P8, f8, g8⟩ := c_numberM (d := d + 3) hL hT P7' (most := 3) (ix := b + 4) (by omega) (by omega)
                have er8 := rdF_n3 (T := T) [93] ((rdN T 3 ((rdN T 3 ((rdN T 1 ((lit T [114, 105, 116, 32] (pos + 1)).2) 0).2 + 1) 0).2 + 1) 0).2 + 1) ([] ++ [(rdN T 1 ((lit T [114, 105, 116, 32] (pos + 1)).2) 0).1] ++ [(rdN T 3 ((rdN T 1 ((lit T [114, 105, 116, 32] (pos + 1)).2) 0).2 + 1) 0).1] ++ [(rdN T 3 ((rdN T 3 ((rdN T 1 ((lit T [114, 105, 116, 32] (pos + 1)).2) 0).2 + 1) 0).2 + 1) 0).1])
                by_cases z8 : (rdN T 3 ((rdN T 3 ((rdN T 3 ((rdN T 1 ((lit T [114, 105, 116, 32] (pos + 1)).2) 0).2 + 1) 0).2 + 1) 0).2 + 1) 0).2 = (rdN T 3 ((rdN T 3 ((rdN T 1 ((lit T [114, 105, 116, 32] (pos + 1)).2) 0).2 + 1) 0).2 + 1) 0).2 + 1
                · have e8 := e7.trans (er8.trans (if_pos z8))
                  rw [decide_eq_false (fun q => q z8), b01_f] at u8
                  rw [z8] at P8
                  refine ⟨J8, ?_, ?_⟩
                  · rw [e8, c_316, b_316_0]
                    simp (disch := omega) only [rd_I_mk, rd_R_mk, rd_L_mk, rd_D_mk, kd_mk, wr_I_mk, cp_mk, gd_true, bd_ret, bd_thr, vl_none, vl_some, iN_add, iN_mul, iN_sub, iN_lt, iN_eq, iN_n, iN_m1, iN_pred, vp_iN, K0_le, nr_b0, nr_b1, m1_lt, lt_m1, iN_ne_m1, m1_ne_iN, not_lt_z, true_and, and_true, and_self, or_true, true_or, or_false, false_or, if_true, if_false, ↓reduceIte, eq_self, up_at, up_a, up_k, cp_c, cp_b, Nat.zero_add, Nat.add_zero, Nat.sub_zero, Nat.le_refl, Nat.add_sub_cancel, fu_at, fu_ne, iN_nz, n10_f, n01_f, ofN, qq_at_100, k110b, Nat.lt_irrefl, Nat.not_lt_zero, ne_eq, not_false_eq_true, not_true_eq_false, k0, r8, g9, u1, b_316_3, u2, b_316_10, u3, b_316_14, u4, b_316_21, u5, b_316_25, u6, b_316_32, u7, b_316_38, b_316_44, u8, b_316_50, nr_b0]
                    rfl
                  · unfold OC
                    rw [e8]
                    exact ⟨P8, by rw [g8, g7', g7, g6, g5, g4, g3, g2, g1], fun j hj => by rw [f8, fu_ne (by omega), f7', fu_ne (by omega), f7, f6, fu_ne (by omega), f5, f4, fu_ne (by omega), f3, f2, fu_ne (by omega), f1], fun q => Bool.noConfusion q⟩
                · have e8 := e7.trans (er8.trans (if_neg z8))
                  rw [decide_eq_true z8, b01_t] at u8
                  refine ⟨J8, ?_, ?_⟩
                  · rw [e8, c_316, b_316_0]
                    simp (disch := omega) only [rd_I_mk, rd_R_mk, rd_L_mk, rd_D_mk, kd_mk, wr_I_mk, cp_mk, gd_true, bd_ret, bd_thr, vl_none, vl_some, iN_add, iN_mul, iN_sub, iN_lt, iN_eq, iN_n, iN_m1, iN_pred, vp_iN, K0_le, nr_b0, nr_b1, m1_lt, lt_m1, iN_ne_m1, m1_ne_iN, not_lt_z, true_and, and_true, and_self, or_true, true_or, or_false, false_or, if_true, if_false, ↓reduceIte, eq_self, up_at, up_a, up_k, cp_c, cp_b, Nat.zero_add, Nat.add_zero, Nat.sub_zero, Nat.le_refl, Nat.add_sub_cancel, fu_at, fu_ne, iN_nz, n10_f, n01_f, ofN, qq_at_100, k110b, Nat.lt_irrefl, Nat.not_lt_zero, ne_eq, not_false_eq_true, not_true_eq_false, k0, r8, g9, u1, b_316_3, u2, b_316_10, u3, b_316_14, u4, b_316_21, u5, b_316_25, u6, b_316_32, u7, b_316_38, b_316_44, u8, b_316_50, nr_b1]
                    rfl
                  · unfold OC
                    rw [e8]
                    refine ⟨P8, by rw [g8, g7', g7, g6, g5, g4, g3, g2, g1], fun j hj => by rw [f8, fu_ne (by omega), f7', fu_ne (by omega), f7, f6, fu_ne (by omega), f5, f4, fu_ne (by omega), f3, f2, fu_ne (by omega), f1], fun _ => ?_⟩
                    exact Or.inr (Or.inr (Or.inr (Or.inr (Or.inr (Or.inl ⟨rfl, by rw [f8, fu_ne (by omega), f7', fu_at], by rw [f8, fu_ne (by omega), f7', fu_ne (by omega), f7, f6, fu_ne (by omega), f5, f4, fu_ne (by omega), f3, f2, fu_at]; rfl, by rw [f8, fu_ne (by omega), f7', fu_ne (by omega), f7, f6, fu_ne (by omega), f5, f4, fu_at]; rfl, by rw [f8, fu_ne (by omega), f7', fu_ne (by omega), f7, f6, fu_at]; rfl, by rw [f8, fu_at]; rfl, of_eq_false (rdN3_m1 (T := T) (p := (rdN T 3 ((rdN T 3 ((rdN T 1 ((lit T [114, 105, 116, 32] (pos + 1)).2) 0).2 + 1) 0).2 + 1) 0).2 + 1))⟩)))))
              · have e7 := e6.trans (er7.trans (if_neg z7))
                rw [decide_eq_false z7, b01_f] at u7
                rw [if_neg z7] at P7
                refine ⟨J7, ?_, ?_⟩
                · rw [e7, c_316, b_316_0]
                  simp (disch := omega) only [rd_I_mk, rd_R_mk, rd_L_mk, rd_D_mk, kd_mk, wr_I_mk, cp_mk, gd_true, bd_ret, bd_thr, vl_none, vl_some, iN_add, iN_mul, iN_sub, iN_lt, iN_eq, iN_n, iN_m1, iN_pred, vp_iN, K0_le, nr_b0, nr_b1, m1_lt, lt_m1, iN_ne_m1, m1_ne_iN, not_lt_z, true_and, and_true, and_self, or_true, true_or, or_false, false_or, if_true, if_false, ↓reduceIte, eq_self, up_at, up_a, up_k, cp_c, cp_b, Nat.zero_add, Nat.add_zero, Nat.sub_zero, Nat.le_refl, Nat.add_sub_cancel, fu_at, fu_ne, iN_nz, n10_f, n01_f, ofN, qq_at_100, k110b, Nat.lt_irrefl, Nat.not_lt_zero, ne_eq, not_false_eq_true, not_true_eq_false, k0, r8, g9, u1, b_316_3, u2, b_316_10, u3, b_316_14, u4, b_316_21, u5, b_316_25, u6, b_316_32, u7, b_316_38, nr_b1]
                  rfl
                · unfold OC
                  rw [e7]
                  refine ⟨P7, by rw [g7, g6, g5, g4, g3, g2, g1], fun j hj => by rw [f7, f6, fu_ne (by omega), f5, f4, fu_ne (by omega), f3, f2, fu_ne (by omega), f1], fun _ => ?_⟩
                  exact Or.inr (Or.inr (Or.inr (Or.inr (Or.inl ⟨rfl, by rw [f7, f6, fu_ne (by omega), f5, f4, fu_ne (by omega), f3, f2, fu_ne (by omega), f1, hb0], by rw [f7, f6, fu_ne (by omega), f5, f4, fu_ne (by omega), f3, f2, fu_at]; rfl, by rw [f7, f6, fu_ne (by omega), f5, f4, fu_at]; rfl, by rw [f7, f6, fu_at]; rfl, rfl⟩))))
          · have e5 := e4.trans (er5.trans (if_neg z5))
            rw [decide_eq_false z5, b01_f] at u5
            rw [if_neg z5] at P5
            refine ⟨J5, ?_, ?_⟩
            · rw [e5, c_316, b_316_0]
              simp (disch := omega) only [rd_I_mk, rd_R_mk, rd_L_mk, rd_D_mk, kd_mk, wr_I_mk, cp_mk, gd_true, bd_ret, bd_thr, vl_none, vl_some, iN_add, iN_mul, iN_sub, iN_lt, iN_eq, iN_n, iN_m1, iN_pred, vp_iN, K0_le, nr_b0, nr_b1, m1_lt, lt_m1, iN_ne_m1, m1_ne_iN, not_lt_z, true_and, and_true, and_self, or_true, true_or, or_false, false_or, if_true, if_false, ↓reduceIte, eq_self, up_at, up_a, up_k, cp_c, cp_b, Nat.zero_add, Nat.add_zero, Nat.sub_zero, Nat.le_refl, Nat.add_sub_cancel, fu_at, fu_ne, iN_nz, n10_f, n01_f, ofN, qq_at_100, k110b, Nat.lt_irrefl, Nat.not_lt_zero, ne_eq, not_false_eq_true, not_true_eq_false, k0, r8, g9, u1, b_316_3, u2, b_316_10, u3, b_316_14, u4, b_316_21, u5, b_316_25, b_316_33, nr_b0]
              rfl
            · unfold OC
              rw [e5]
              exact ⟨P5, by rw [g5, g4, g3, g2, g1], fun j hj => by rw [f5, f4, fu_ne (by omega), f3, f2, fu_ne (by omega), f1], fun q => Bool.noConfusion q⟩
      · have e3 := e2.trans (er3.trans (if_neg z3))
        rw [decide_eq_false z3, b01_f] at u3
        rw [if_neg z3] at P3
        refine ⟨J3, ?_, ?_⟩
        · rw [e3, c_316, b_316_0]
          simp (disch := omega) only [rd_I_mk, rd_R_mk, rd_L_mk, rd_D_mk, kd_mk, wr_I_mk, cp_mk, gd_true, bd_ret, bd_thr, vl_none, vl_some, iN_add, iN_mul, iN_sub, iN_lt, iN_eq, iN_n, iN_m1, iN_pred, vp_iN, K0_le, nr_b0, nr_b1, m1_lt, lt_m1, iN_ne_m1, m1_ne_iN, not_lt_z, true_and, and_true, and_self, or_true, true_or, or_false, false_or, if_true, if_false, ↓reduceIte, eq_self, up_at, up_a, up_k, cp_c, cp_b, Nat.zero_add, Nat.add_zero, Nat.sub_zero, Nat.le_refl, Nat.add_sub_cancel, fu_at, fu_ne, iN_nz, n10_f, n01_f, ofN, qq_at_100, k110b, Nat.lt_irrefl, Nat.not_lt_zero, ne_eq, not_false_eq_true, not_true_eq_false, k0, r8, g9, u1, b_316_3, u2, b_316_10, u3, b_316_14, b_316_33, nr_b0]
          rfl
        · unfold OC
          rw [e3]
          exact ⟨P3, by rw [g3, g2, g1], fun j hj => by rw [f3, f2, fu_ne (by omega), f1], fun q => Bool.noConfusion q⟩
theorem c_rdN (hL : L_N τ m) (hT : TP I m T) (hS : ∀ p ∈ ktab, St I τ p.1 p.2) (hP : PS m I T J (pos + 1)) (hb : b + 5 ≤ 155) (hs : sg T pos = 110) (hb0 : J (m + 9) b = iN 110) : ∃ J', CC (d + 5) 317 [.ref m, .int (iN b)] (J, τ) = some (.inl (some (.int (b01 (rdF T (frm 8) pos []).1))), (J', τ)) ∧ OC m I T J J' b 8 pos := by
  obtain ⟨m70, k0, r0, r1, r2, r3, r4, r5, r6, r7, r8, g1, g2, g3, g4, g5, g6, g7, g8, g9⟩ := id hL
  have e0 : rdF T (frm 8) pos [] = rdF T [105, 103, 104, 116, 91, 32, 37, 93] (pos + 1) [] := (rdF_c (T := T) (ch := 110) (by decide) [105, 103, 104, 116, 91, 32, 37, 93] pos []).trans (if_pos hs)
  obtain ⟨P0, f0, g0⟩ := PS_up (i := b + 1) (v := iN 1) hP
  obtain ⟨J1, u1, P1, f1, g1⟩ := c_takesAll (d := d + 0) hL hT (hS (15, [105, 103, 104, 116]) (by decide)) (by decide) P0
  have er1 := rdF_lit (T := T) [91, 32, 37, 93] [105, 103, 104, 116] (pos + 1) ([]) (by decide)
  cases hb1 : (lit T [105, 103, 104, 116] (pos + 1)).1 with
  | false =>
    have e1 := e0.trans (er1.trans (if_neg (by rw [hb1]; decide)))
    rw [hb1, b01_f] at u1
    refine ⟨J1, ?_, ?_⟩
    · rw [e1, c_317, b_317_0]
      simp (disch := omega) only [rd_I_mk, rd_R_mk, rd_L_mk, rd_D_mk, kd_mk, wr_I_mk, cp_mk, gd_true, bd_ret, bd_thr, vl_none, vl_some, iN_add, iN_mul, iN_sub, iN_lt, iN_eq, iN_n, iN_m1, iN_pred, vp_iN, K0_le, nr_b0, nr_b1, m1_lt, lt_m1, iN_ne_m1, m1_ne_iN, not_lt_z, true_and, and_true, and_self, or_true, true_or, or_false, false_or, if_true, if_false, ↓reduceIte, eq_self, up_at, up_a, up_k, cp_c, cp_b, Nat.zero_add, Nat.add_zero, Nat.sub_zero, Nat.le_refl, Nat.add_sub_cancel, fu_at, fu_ne, iN_nz, n10_f, n01_f, ofN, qq_at_100, k110b, Nat.lt_irrefl, Nat.not_lt_zero, ne_eq, not_false_eq_true, not_true_eq_false, k0, r8, g9, b_317_7, u1, b_317_10, b_317_24, b_317_25, nr_b0]
      rfl
    · unfold OC
      rw [e1]
      exact ⟨P1, by rw [g1, g0], fun j hj => by rw [f1, f0, fu_ne (by omega)], fun q => Bool.noConfusion q⟩
  | true =>
    have e1 := e0.trans (er1.trans (if_pos hb1))
    rw [hb1, b01_t] at u1
    obtain ⟨J2, u2, P2, f2, g2⟩ := c_takes (d := d + 3) hL hT P1 (ch := 32) (by omega) (by omega)
    have er2 := rdF_o (T := T) 32 [37, 93] ((lit T [105, 103, 104, 116] (pos + 1)).2) ([])
    have es2 := rdF_c (T := T) (ch := 32) (by decide) [37, 93] ((lit T [105, 103, 104, 116] (pos + 1)).2) ([])
    by_cases z2 : sg T ((lit T [105, 103, 104, 116] (pos + 1)).2) = 32
    · have e2 := e1.trans (er2.trans ((if_pos z2).trans (es2.trans (if_pos z2))))
      rw [decide_eq_true z2, b01_t] at u2
      rw [if_pos z2] at P2
      obtain ⟨J3, u3, P3, f3, g3⟩ := c_numberM (d := d + 3) hL hT P2 (most := 3) (ix := b + 1) (by omega) (by omega)
      have er3 := rdF_n3 (T := T) [93] ((lit T [105, 103, 104, 116] (pos + 1)).2 + 1) ([])
      by_cases z3 : (rdN T 3 ((lit T [105, 103, 104, 116] (pos + 1)).2 + 1) 0).2 = (lit T [105, 103, 104, 116] (pos + 1)).2 + 1
      · have e3 := e2.trans (er3.trans (if_pos z3))
        rw [decide_eq_false (fun q => q z3), b01_f] at u3
        rw [z3] at P3
        refine ⟨J3, ?_, ?_⟩
        · rw [e3, c_317, b_317_0]
          simp (disch := omega) only [rd_I_mk, rd_R_mk, rd_L_mk, rd_D_mk, kd_mk, wr_I_mk, cp_mk, gd_true, bd_ret, bd_thr, vl_none, vl_some, iN_add, iN_mul, iN_sub, iN_lt, iN_eq, iN_n, iN_m1, iN_pred, vp_iN, K0_le, nr_b0, nr_b1, m1_lt, lt_m1, iN_ne_m1, m1_ne_iN, not_lt_z, true_and, and_true, and_self, or_true, true_or, or_false, false_or, if_true, if_false, ↓reduceIte, eq_self, up_at, up_a, up_k, cp_c, cp_b, Nat.zero_add, Nat.add_zero, Nat.sub_zero, Nat.le_refl, Nat.add_sub_cancel, fu_at, fu_ne, iN_nz, n10_f, n01_f, ofN, qq_at_100, k110b, Nat.lt_irrefl, Nat.not_lt_zero, ne_eq, not_false_eq_true, not_true_eq_false, k0, r8, g9, b_317_7, u1, b_317_10, u2, b_317_14, u3, b_317_21, b_317_24, b_317_25, nr_b0]
          rfl
        · unfold OC
          rw [e3]
          exact ⟨P3, by rw [g3, g2, g1, g0], fun j hj => by rw [f3, fu_ne (by omega), f2, f1, f0, fu_ne (by omega)], fun q => Bool.noConfusion q⟩
      · have e3 := e2.trans (er3.trans (if_neg z3))
        rw [decide_eq_true z3, b01_t] at u3
        refine ⟨J3, ?_, ?_⟩
        · rw [e3, c_317, b_317_0]
          simp (disch := omega) only [rd_I_mk, rd_R_mk, rd_L_mk, rd_D_mk, kd_mk, wr_I_mk, cp_mk, gd_true, bd_ret, bd_thr, vl_none, vl_some, iN_add, iN_mul, iN_sub, iN_lt, iN_eq, iN_n, iN_m1, iN_pred, vp_iN, K0_le, nr_b0, nr_b1, m1_lt, lt_m1, iN_ne_m1, m1_ne_iN, not_lt_z, true_and, and_true, and_self, or_true, true_or, or_false, false_or, if_true, if_false, ↓reduceIte, eq_self, up_at, up_a, up_k, cp_c, cp_b, Nat.zero_add, Nat.add_zero, Nat.sub_zero, Nat.le_refl, Nat.add_sub_cancel, fu_at, fu_ne, iN_nz, n10_f, n01_f, ofN, qq_at_100, k110b, Nat.lt_irrefl, Nat.not_lt_zero, ne_eq, not_false_eq_true, not_true_eq_false, k0, r8, g9, b_317_7, u1, b_317_10, u2, b_317_14, u3, b_317_21, b_317_22, b_317_25, nr_b1]
          rfl
        · unfold OC
          rw [e3]
          refine ⟨P3, by rw [g3, g2, g1, g0], fun j hj => by rw [f3, fu_ne (by omega), f2, f1, f0, fu_ne (by omega)], fun _ => ?_⟩
          exact Or.inr (Or.inr (Or.inr (Or.inr (Or.inr (Or.inr (Or.inr (Or.inr (Or.inr (⟨rfl, by rw [f3, fu_ne (by omega), f2, f1, f0, fu_ne (by omega), hb0], by
            rw [f3, fu_at]
            exact (if_neg (of_eq_false (rdN3_m1 (T := T) (p := (lit T [105, 103, 104, 116] (pos + 1)).2 + 1)))).symm⟩)))))))))
    · have e2 := e1.trans (er2.trans (if_neg z2))
      rw [decide_eq_false z2, b01_f] at u2
      rw [if_neg z2] at P2
      refine ⟨J2, ?_, ?_⟩
      · rw [e2, c_317, b_317_0]
        simp (disch := omega) only [rd_I_mk, rd_R_mk, rd_L_mk, rd_D_mk, kd_mk, wr_I_mk, cp_mk, gd_true, bd_ret, bd_thr, vl_none, vl_some, iN_add, iN_mul, iN_sub, iN_lt, iN_eq, iN_n, iN_m1, iN_pred, vp_iN, K0_le, nr_b0, nr_b1, m1_lt, lt_m1, iN_ne_m1, m1_ne_iN, not_lt_z, true_and, and_true, and_self, or_true, true_or, or_false, false_or, if_true, if_false, ↓reduceIte, eq_self, up_at, up_a, up_k, cp_c, cp_b, Nat.zero_add, Nat.add_zero, Nat.sub_zero, Nat.le_refl, Nat.add_sub_cancel, fu_at, fu_ne, iN_nz, n10_f, n01_f, ofN, qq_at_100, k110b, Nat.lt_irrefl, Nat.not_lt_zero, ne_eq, not_false_eq_true, not_true_eq_false, k0, r8, g9, b_317_7, u1, b_317_10, u2, b_317_14, b_317_22, b_317_25, nr_b1]
        rfl
      · unfold OC
        rw [e2]
        refine ⟨P2, by rw [g2, g1, g0], fun j hj => by rw [f2, f1, f0, fu_ne (by omega)], fun _ => ?_⟩
        exact Or.inr (Or.inr (Or.inr (Or.inr (Or.inr (Or.inr (Or.inr (Or.inr (Or.inr (⟨rfl, by rw [f2, f1, f0, fu_ne (by omega), hb0], by rw [f2, f1, f0, fu_at]; rfl⟩)))))))))
theorem c_rdP (hL : L_N τ m) (hT : TP I m T) (hS : ∀ p ∈ ktab, St I τ p.1 p.2) (hP : PS m I T J (pos + 1)) (hb : b + 5 ≤ 155) (hs : sg T pos = 112) (hb0 : J (m + 9) b = iN 112) : ∃ J', CC (d + 5) 314 [.ref m, .int (iN b)] (J, τ) = some (.inl (some (.int (b01 (rdF T (frm (if sg T (pos + 1) = 101 then 0 else 6)) pos []).1))), (J', τ)) ∧ OC m I T J J' b (if sg T (pos + 1) = 101 then 0 else 6) pos := by
  obtain ⟨m70, k0, r0, r1, r2, r3, r4, r5, r6, r7, r8, g1, g2, g3, g4, g5, g6, g7, g8, g9⟩ := id hL
  obtain ⟨J9, u9, P9, f9, g9'⟩ := c_takes (d := d + 3) hL hT hP (ch := 101) (by omega) (by omega)
  by_cases z9 : sg T (pos + 1) = 101
  · rw [decide_eq_true z9, b01_t] at u9
    rw [if_pos z9] at P9
    rw [if_pos z9]
    have e0 : rdF T (frm 0) pos [] = rdF T [100, 101, 115, 116, 97, 108] (pos + 1 + 1) [] := (rdF_c (T := T) (ch := 112) (by decide) [101, 100, 101, 115, 116, 97, 108] pos []).trans ((if_pos hs).trans ((rdF_c (T := T) (ch := 101) (by decide) [100, 101, 115, 116, 97, 108] (pos + 1) []).trans (if_pos z9)))
    obtain ⟨J1, u1, P1, f1, g1⟩ := c_takesAll (d := d + 0) hL hT (hS (5, [100, 101, 115, 116, 97, 108]) (by decide)) (by decide) P9
    have er1 := rdF_lit (T := T) [] [100, 101, 115, 116, 97, 108] (pos + 1 + 1) ([]) (by decide)
    cases hb1 : (lit T [100, 101, 115, 116, 97, 108] (pos + 1 + 1)).1 with
    | false =>
      have e1 := e0.trans (er1.trans (if_neg (by rw [hb1]; decide)))
      rw [hb1, b01_f] at u1
      refine ⟨J1, ?_, ?_⟩
      · rw [e1, c_314, b_314_0]
        simp (disch := omega) only [rd_I_mk, rd_R_mk, rd_L_mk, rd_D_mk, kd_mk, wr_I_mk, cp_mk, gd_true, bd_ret, bd_thr, vl_none, vl_some, iN_add, iN_mul, iN_sub, iN_lt, iN_eq, iN_n, iN_m1, iN_pred, vp_iN, K0_le, nr_b0, nr_b1, m1_lt, lt_m1, iN_ne_m1, m1_ne_iN, not_lt_z, true_and, and_true, and_self, or_true, true_or, or_false, false_or, if_true, if_false, ↓reduceIte, eq_self, up_at, up_a, up_k, cp_c, cp_b, Nat.zero_add, Nat.add_zero, Nat.sub_zero, Nat.le_refl, Nat.add_sub_cancel, fu_at, fu_ne, iN_nz, n10_f, n01_f, ofN, qq_at_100, k110b, Nat.lt_irrefl, Nat.not_lt_zero, ne_eq, not_false_eq_true, not_true_eq_false, k0, r8, g9, u9, b_314_3, u1, b_314_7, nr_b0]
        rfl
      · unfold OC
        rw [e1]
        exact ⟨P1, by rw [g1, g9'], fun j hj => by rw [f1, f9], fun q => Bool.noConfusion q⟩
    | true =>
      have e1 := e0.trans (er1.trans (if_pos hb1))
      rw [hb1, b01_t] at u1
      refine ⟨J1, ?_, ?_⟩
      · rw [e1, c_314, b_314_0]
        simp (disch := omega) only [rd_I_mk, rd_R_mk, rd_L_mk, rd_D_mk, kd_mk, wr_I_mk, cp_mk, gd_true, bd_ret, bd_thr, vl_none, vl_some, iN_add, iN_mul, iN_sub, iN_lt, iN_eq, iN_n, iN_m1, iN_pred, vp_iN, K0_le, nr_b0, nr_b1, m1_lt, lt_m1, iN_ne_m1, m1_ne_iN, not_lt_z, true_and, and_true, and_self, or_true, true_or, or_false, false_or, if_true, if_false, ↓reduceIte, eq_self, up_at, up_a, up_k, cp_c, cp_b, Nat.zero_add, Nat.add_zero, Nat.sub_zero, Nat.le_refl, Nat.add_sub_cancel, fu_at, fu_ne, iN_nz, n10_f, n01_f, ofN, qq_at_100, k110b, Nat.lt_irrefl, Nat.not_lt_zero, ne_eq, not_false_eq_true, not_true_eq_false, k0, r8, g9, u9, b_314_3, u1, b_314_7, nr_b1]
        rfl
      · unfold OC
        rw [e1]
        refine ⟨P1, by rw [g1, g9'], fun j hj => by rw [f1, f9], fun _ => ?_⟩
        exact Or.inl ⟨rfl, by rw [f1, f9, hb0]⟩
  · rw [decide_eq_false z9, b01_f] at u9
    rw [if_neg z9] at P9
    rw [if_neg z9]
    obtain ⟨P0, f0, g0⟩ := PS_up (i := b) (v := iN 121) P9
    have e0 : rdF T (frm 6) pos [] = rdF T [97, 121, 32, 37] (pos + 1) [] := (rdF_c (T := T) (ch := 112) (by decide) [97, 121, 32, 37] pos []).trans (if_pos hs)
    obtain ⟨J1, u1, P1, f1, g1⟩ := c_takesAll (d := d + 0) hL hT (hS (7, [97, 121, 32]) (by decide)) (by decide) P0
    have er1 := rdF_lit (T := T) [37] [97, 121, 32] (pos + 1) ([]) (by decide)
    cases hb1 : (lit T [97, 121, 32] (pos + 1)).1 with
    | false =>
      have e1 := e0.trans (er1.trans (if_neg (by rw [hb1]; decide)))
      rw [hb1, b01_f] at u1
      refine ⟨J1, ?_, ?_⟩
      · rw [e1, c_314, b_314_0]
        simp (disch := omega) only [rd_I_mk, rd_R_mk, rd_L_mk, rd_D_mk, kd_mk, wr_I_mk, cp_mk, gd_true, bd_ret, bd_thr, vl_none, vl_some, iN_add, iN_mul, iN_sub, iN_lt, iN_eq, iN_n, iN_m1, iN_pred, vp_iN, K0_le, nr_b0, nr_b1, m1_lt, lt_m1, iN_ne_m1, m1_ne_iN, not_lt_z, true_and, and_true, and_self, or_true, true_or, or_false, false_or, if_true, if_false, ↓reduceIte, eq_self, up_at, up_a, up_k, cp_c, cp_b, Nat.zero_add, Nat.add_zero, Nat.sub_zero, Nat.le_refl, Nat.add_sub_cancel, fu_at, fu_ne, iN_nz, n10_f, n01_f, ofN, qq_at_100, k110b, Nat.lt_irrefl, Nat.not_lt_zero, ne_eq, not_false_eq_true, not_true_eq_false, k0, r8, g9, u9, b_314_3, b_314_13, u1, b_314_16, b_314_26, b_314_27, nr_b0]
        rfl
      · unfold OC
        rw [e1]
        exact ⟨P1, by rw [g1, g0, g9'], fun j hj => by rw [f1, f0, fu_ne (by omega), f9], fun q => Bool.noConfusion q⟩
    | true =>
      have e1 := e0.trans (er1.trans (if_pos hb1))
      rw [hb1, b01_t] at u1
      obtain ⟨J2, u2, P2, f2, g2⟩ := c_numberM (d := d + 3) hL hT P1 (most := 3) (ix := b + 1) (by omega) (by omega)
      have er2 := rdF_n3 (T := T) [] ((lit T [97, 121, 32] (pos + 1)).2) ([])
      by_cases z2 : (rdN T 3 ((lit T [97, 121, 32] (pos + 1)).2) 0).2 = (lit T [97, 121, 32] (pos + 1)).2
      · have e2 := e1.trans (er2.trans (if_pos z2))
        rw [decide_eq_false (fun q => q z2), b01_f] at u2
        rw [z2] at P2
        refine ⟨J2, ?_, ?_⟩
        · rw [e2, c_314, b_314_0]
          simp (disch := omega) only [rd_I_mk, rd_R_mk, rd_L_mk, rd_D_mk, kd_mk, wr_I_mk, cp_mk, gd_true, bd_ret, bd_thr, vl_none, vl_some, iN_add, iN_mul, iN_sub, iN_lt, iN_eq, iN_n, iN_m1, iN_pred, vp_iN, K0_le, nr_b0, nr_b1, m1_lt, lt_m1, iN_ne_m1, m1_ne_iN, not_lt_z, true_and, and_true, and_self, or_true, true_or, or_false, false_or, if_true, if_false, ↓reduceIte, eq_self, up_at, up_a, up_k, cp_c, cp_b, Nat.zero_add, Nat.add_zero, Nat.sub_zero, Nat.le_refl, Nat.add_sub_cancel, fu_at, fu_ne, iN_nz, n10_f, n01_f, ofN, qq_at_100, k110b, Nat.lt_irrefl, Nat.not_lt_zero, ne_eq, not_false_eq_true, not_true_eq_false, k0, r8, g9, u9, b_314_3, b_314_13, u1, b_314_16, u2, b_314_23, b_314_26, b_314_27, nr_b0]
          rfl
        · unfold OC
          rw [e2]
          exact ⟨P2, by rw [g2, g1, g0, g9'], fun j hj => by rw [f2, fu_ne (by omega), f1, f0, fu_ne (by omega), f9], fun q => Bool.noConfusion q⟩
      · have e2 := e1.trans (er2.trans (if_neg z2))
        rw [decide_eq_true z2, b01_t] at u2
        refine ⟨J2, ?_, ?_⟩
        · rw [e2, c_314, b_314_0]
          simp (disch := omega) only [rd_I_mk, rd_R_mk, rd_L_mk, rd_D_mk, kd_mk, wr_I_mk, cp_mk, gd_true, bd_ret, bd_thr, vl_none, vl_some, iN_add, iN_mul, iN_sub, iN_lt, iN_eq, iN_n, iN_m1, iN_pred, vp_iN, K0_le, nr_b0, nr_b1, m1_lt, lt_m1, iN_ne_m1, m1_ne_iN, not_lt_z, true_and, and_true, and_self, or_true, true_or, or_false, false_or, if_true, if_false, ↓reduceIte, eq_self, up_at, up_a, up_k, cp_c, cp_b, Nat.zero_add, Nat.add_zero, Nat.sub_zero, Nat.le_refl, Nat.add_sub_cancel, fu_at, fu_ne, iN_nz, n10_f, n01_f, ofN, qq_at_100, k110b, Nat.lt_irrefl, Nat.not_lt_zero, ne_eq, not_false_eq_true, not_true_eq_false, k0, r8, g9, u9, b_314_3, b_314_13, u1, b_314_16, u2, b_314_23, b_314_27, nr_b1]
          rfl
        · unfold OC
          rw [e2]
          refine ⟨P2, by rw [g2, g1, g0, g9'], fun j hj => by rw [f2, fu_ne (by omega), f1, f0, fu_ne (by omega), f9], fun _ => ?_⟩
          exact Or.inr (Or.inr (Or.inr (Or.inr (Or.inr (Or.inr (Or.inr (Or.inl ⟨rfl, by rw [f2, fu_ne (by omega), f1, f0, fu_at], by rw [f2, fu_at]; rfl⟩)))))))
theorem c_rdH (hL : L_N τ m) (hT : TP I m T) (hS : ∀ p ∈ ktab, St I τ p.1 p.2) (hP : PS m I T J (pos + 1)) (hb : b + 5 ≤ 155) (hs : sg T pos = 104) (hb0 : J (m + 9) b = iN 104) : ∃ J', CC (d + 5) 315 [.ref m, .int (iN b)] (J, τ) = some (.inl (some (.int (b01 (rdF T (frm (if sg T (pos + 1) = 111 then 3 else 7)) pos []).1))), (J', τ)) ∧ OC m I T J J' b (if sg T (pos + 1) = 111 then 3 else 7) pos := by
  obtain ⟨m70, k0, r0, r1, r2, r3, r4, r5, r6, r7, r8, g1, g2, g3, g4, g5, g6, g7, g8, g9⟩ := id hL
  obtain ⟨J9, u9, P9, f9, g9'⟩ := c_takes (d := d + 3) hL hT hP (ch := 111) (by omega) (by omega)
  by_cases z9 : sg T (pos + 1) = 111
  · rw [decide_eq_true z9, b01_t] at u9
    rw [if_pos z9] at P9
    rw [if_pos z9]
    have e0 : rdF T (frm 3) pos [] = rdF T [109, 101, 32, 35, 35] (pos + 1 + 1) [] := (rdF_c (T := T) (ch := 104) (by decide) [111, 109, 101, 32, 35, 35] pos []).trans ((if_pos hs).trans ((rdF_c (T := T) (ch := 111) (by decide) [109, 101, 32, 35, 35] (pos + 1) []).trans (if_pos z9)))
    obtain ⟨J1, u1, P1, f1, g1⟩ := c_takesAll (d := d + 0) hL hT (hS (9, [109, 101, 32]) (by decide)) (by decide) P9
    have er1 := rdF_lit (T := T) [35, 35] [109, 101, 32] (pos + 1 + 1) ([]) (by decide)
    cases hb1 : (lit T [109, 101, 32] (pos + 1 + 1)).1 with
    | false =>
      have e1 := e0.trans (er1.trans (if_neg (by rw [hb1]; decide)))
      rw [hb1, b01_f] at u1
      refine ⟨J1, ?_, ?_⟩
      · rw [e1, c_315, b_315_0]
        simp (disch := omega) only [rd_I_mk, rd_R_mk, rd_L_mk, rd_D_mk, kd_mk, wr_I_mk, cp_mk, gd_true, bd_ret, bd_thr, vl_none, vl_some, iN_add, iN_mul, iN_sub, iN_lt, iN_eq, iN_n, iN_m1, iN_pred, vp_iN, K0_le, nr_b0, nr_b1, m1_lt, lt_m1, iN_ne_m1, m1_ne_iN, not_lt_z, true_and, and_true, and_self, or_true, true_or, or_false, false_or, if_true, if_false, ↓reduceIte, eq_self, up_at, up_a, up_k, cp_c, cp_b, Nat.zero_add, Nat.add_zero, Nat.sub_zero, Nat.le_refl, Nat.add_sub_cancel, fu_at, fu_ne, iN_nz, n10_f, n01_f, ofN, qq_at_100, k110b, Nat.lt_irrefl, Nat.not_lt_zero, ne_eq, not_false_eq_true, not_true_eq_false, k0, r8, g9, u9, b_315_3, u1, b_315_7, b_315_24, b_315_25, nr_b0]
        rfl
      · unfold OC
        rw [e1]
        exact ⟨P1, by rw [g1, g9'], fun j hj => by rw [f1, f9], fun q => Bool.noConfusion q⟩
    | true =>
      have e1 := e0.trans (er1.trans (if_pos hb1))
      rw [hb1, b01_t] at u1
      obtain ⟨J2, u2, P2, f2, g2⟩ := c_numberM (d := d + 3) hL hT P1 (most := 1) (ix := b + 1) (by omega) (by omega)
      have er2 := rdF_n1 (T := T) [35] ((lit T [109, 101, 32] (pos + 1 + 1)).2) ([])
      by_cases z2 : (rdN T 1 ((lit T [109, 101, 32] (pos + 1 + 1)).2) 0).2 = (lit T [109, 101, 32] (pos + 1 + 1)).2
      · have e2 := e1.trans (er2.trans (if_pos z2))
        rw [decide_eq_false (fun q => q z2), b01_f] at u2
        rw [z2] at P2
        refine ⟨J2, ?_, ?_⟩
        · rw [e2, c_315, b_315_0]
          simp (disch := omega) only [rd_I_mk, rd_R_mk, rd_L_mk, rd_D_mk, kd_mk, wr_I_mk, cp_mk, gd_true, bd_ret, bd_thr, vl_none, vl_some, iN_add, iN_mul, iN_sub, iN_lt, iN_eq, iN_n, iN_m1, iN_pred, vp_iN, K0_le, nr_b0, nr_b1, m1_lt, lt_m1, iN_ne_m1, m1_ne_iN, not_lt_z, true_and, and_true, and_self, or_true, true_or, or_false, false_or, if_true, if_false, ↓reduceIte, eq_self, up_at, up_a, up_k, cp_c, cp_b, Nat.zero_add, Nat.add_zero, Nat.sub_zero, Nat.le_refl, Nat.add_sub_cancel, fu_at, fu_ne, iN_nz, n10_f, n01_f, ofN, qq_at_100, k110b, Nat.lt_irrefl, Nat.not_lt_zero, ne_eq, not_false_eq_true, not_true_eq_false, k0, r8, g9, u9, b_315_3, u1, b_315_7, u2, b_315_14, b_315_24, b_315_25, nr_b0]
          rfl
        · unfold OC
          rw [e2]
          exact ⟨P2, by rw [g2, g1, g9'], fun j hj => by rw [f2, fu_ne (by omega), f1, f9], fun q => Bool.noConfusion q⟩
      · have e2 := e1.trans (er2.trans (if_neg z2))
        rw [decide_eq_true z2, b01_t] at u2
        obtain ⟨J3, u3, P3, f3, g3⟩ := c_numberM (d := d + 3) hL hT P2 (most := 1) (ix := b + 2) (by omega) (by omega)
        have er3 := rdF_n1 (T := T) [] ((rdN T 1 ((lit T [109, 101, 32] (pos + 1 + 1)).2) 0).2) ([] ++ [(rdN T 1 ((lit T [109, 101, 32] (pos + 1 + 1)).2) 0).1])
        by_cases z3 : (rdN T 1 ((rdN T 1 ((lit T [109, 101, 32] (pos + 1 + 1)).2) 0).2) 0).2 = (rdN T 1 ((lit T [109, 101, 32] (pos + 1 + 1)).2) 0).2
        · have e3 := e2.trans (er3.trans (if_pos z3))
          rw [decide_eq_false (fun q => q z3), b01_f] at u3
          rw [z3] at P3
          refine ⟨J3, ?_, ?_⟩
          · rw [e3, c_315, b_315_0]
            simp (disch := omega) only [rd_I_mk, rd_R_mk, rd_L_mk, rd_D_mk, kd_mk, wr_I_mk, cp_mk, gd_true, bd_ret, bd_thr, vl_none, vl_some, iN_add, iN_mul, iN_sub, iN_lt, iN_eq, iN_n, iN_m1, iN_pred, vp_iN, K0_le, nr_b0, nr_b1, m1_lt, lt_m1, iN_ne_m1, m1_ne_iN, not_lt_z, true_and, and_true, and_self, or_true, true_or, or_false, false_or, if_true, if_false, ↓reduceIte, eq_self, up_at, up_a, up_k, cp_c, cp_b, Nat.zero_add, Nat.add_zero, Nat.sub_zero, Nat.le_refl, Nat.add_sub_cancel, fu_at, fu_ne, iN_nz, n10_f, n01_f, ofN, qq_at_100, k110b, Nat.lt_irrefl, Nat.not_lt_zero, ne_eq, not_false_eq_true, not_true_eq_false, k0, r8, g9, u9, b_315_3, u1, b_315_7, u2, b_315_14, u3, b_315_21, b_315_24, b_315_25, nr_b0]
            rfl
          · unfold OC
            rw [e3]
            exact ⟨P3, by rw [g3, g2, g1, g9'], fun j hj => by rw [f3, fu_ne (by omega), f2, fu_ne (by omega), f1, f9], fun q => Bool.noConfusion q⟩
        · have e3 := e2.trans (er3.trans (if_neg z3))
          rw [decide_eq_true z3, b01_t] at u3
          refine ⟨J3, ?_, ?_⟩
          · rw [e3, c_315, b_315_0]
            simp (disch := omega) only [rd_I_mk, rd_R_mk, rd_L_mk, rd_D_mk, kd_mk, wr_I_mk, cp_mk, gd_true, bd_ret, bd_thr, vl_none, vl_some, iN_add, iN_mul, iN_sub, iN_lt, iN_eq, iN_n, iN_m1, iN_pred, vp_iN, K0_le, nr_b0, nr_b1, m1_lt, lt_m1, iN_ne_m1, m1_ne_iN, not_lt_z, true_and, and_true, and_self, or_true, true_or, or_false, false_or, if_true, if_false, ↓reduceIte, eq_self, up_at, up_a, up_k, cp_c, cp_b, Nat.zero_add, Nat.add_zero, Nat.sub_zero, Nat.le_refl, Nat.add_sub_cancel, fu_at, fu_ne, iN_nz, n10_f, n01_f, ofN, qq_at_100, k110b, Nat.lt_irrefl, Nat.not_lt_zero, ne_eq, not_false_eq_true, not_true_eq_false, k0, r8, g9, u9, b_315_3, u1, b_315_7, u2, b_315_14, u3, b_315_21, b_315_25, nr_b1]
            rfl
          · unfold OC
            rw [e3]
            refine ⟨P3, by rw [g3, g2, g1, g9'], fun j hj => by rw [f3, fu_ne (by omega), f2, fu_ne (by omega), f1, f9], fun _ => ?_⟩
            exact Or.inr (Or.inr (Or.inr (Or.inl ⟨rfl, by rw [f3, fu_ne (by omega), f2, fu_ne (by omega), f1, f9, hb0], by rw [f3, fu_ne (by omega), f2, fu_at]; rfl, by rw [f3, fu_at]; rfl⟩)))
  · rw [decide_eq_false z9, b01_f] at u9
    rw [if_neg z9] at P9
    rw [if_neg z9]
    obtain ⟨P0, f0, g0⟩ := PS_up (i := b) (v := iN 101) P9
    have e0 : rdF T (frm 7) pos [] = rdF T [101, 97, 114, 32, 37] (pos + 1) [] := (rdF_c (T := T) (ch := 104) (by decide) [101, 97, 114, 32, 37] pos []).trans (if_pos hs)
    obtain ⟨J1, u1, P1, f1, g1⟩ := c_takesAll (d := d + 0) hL hT (hS (11, [101, 97, 114, 32]) (by decide)) (by decide) P0
    have er1 := rdF_lit (T := T) [37] [101, 97, 114, 32] (pos + 1) ([]) (by decide)
    cases hb1 : (lit T [101, 97, 114, 32] (pos + 1)).1 with
    | false =>
      have e1 := e0.trans (er1.trans (if_neg (by rw [hb1]; decide)))
      rw [hb1, b01_f] at u1
      refine ⟨J1, ?_, ?_⟩
      · rw [e1, c_315, b_315_0]
        simp (disch := omega) only [rd_I_mk, rd_R_mk, rd_L_mk, rd_D_mk, kd_mk, wr_I_mk, cp_mk, gd_true, bd_ret, bd_thr, vl_none, vl_some, iN_add, iN_mul, iN_sub, iN_lt, iN_eq, iN_n, iN_m1, iN_pred, vp_iN, K0_le, nr_b0, nr_b1, m1_lt, lt_m1, iN_ne_m1, m1_ne_iN, not_lt_z, true_and, and_true, and_self, or_true, true_or, or_false, false_or, if_true, if_false, ↓reduceIte, eq_self, up_at, up_a, up_k, cp_c, cp_b, Nat.zero_add, Nat.add_zero, Nat.sub_zero, Nat.le_refl, Nat.add_sub_cancel, fu_at, fu_ne, iN_nz, n10_f, n01_f, ofN, qq_at_100, k110b, Nat.lt_irrefl, Nat.not_lt_zero, ne_eq, not_false_eq_true, not_true_eq_false, k0, r8, g9, u9, b_315_3, b_315_31, u1, b_315_34, b_315_44, b_315_45, nr_b0]
        rfl
      · unfold OC
        rw [e1]
        exact ⟨P1, by rw [g1, g0, g9'], fun j hj => by rw [f1, f0, fu_ne (by omega), f9], fun q => Bool.noConfusion q⟩
    | true =>
      have e1 := e0.trans (er1.trans (if_pos hb1))
      rw [hb1, b01_t] at u1
      obtain ⟨J2, u2, P2, f2, g2⟩ := c_numberM (d := d + 3) hL hT P1 (most := 3) (ix := b + 1) (by omega) (by omega)
      have er2 := rdF_n3 (T := T) [] ((lit T [101, 97, 114, 32] (pos + 1)).2) ([])
      by_cases z2 : (rdN T 3 ((lit T [101, 97, 114, 32] (pos + 1)).2) 0).2 = (lit T [101, 97, 114, 32] (pos + 1)).2
      · have e2 := e1.trans (er2.trans (if_pos z2))
        rw [decide_eq_false (fun q => q z2), b01_f] at u2
        rw [z2] at P2
        refine ⟨J2, ?_, ?_⟩
        · rw [e2, c_315, b_315_0]
          simp (disch := omega) only [rd_I_mk, rd_R_mk, rd_L_mk, rd_D_mk, kd_mk, wr_I_mk, cp_mk, gd_true, bd_ret, bd_thr, vl_none, vl_some, iN_add, iN_mul, iN_sub, iN_lt, iN_eq, iN_n, iN_m1, iN_pred, vp_iN, K0_le, nr_b0, nr_b1, m1_lt, lt_m1, iN_ne_m1, m1_ne_iN, not_lt_z, true_and, and_true, and_self, or_true, true_or, or_false, false_or, if_true, if_false, ↓reduceIte, eq_self, up_at, up_a, up_k, cp_c, cp_b, Nat.zero_add, Nat.add_zero, Nat.sub_zero, Nat.le_refl, Nat.add_sub_cancel, fu_at, fu_ne, iN_nz, n10_f, n01_f, ofN, qq_at_100, k110b, Nat.lt_irrefl, Nat.not_lt_zero, ne_eq, not_false_eq_true, not_true_eq_false, k0, r8, g9, u9, b_315_3, b_315_31, u1, b_315_34, u2, b_315_41, b_315_44, b_315_45, nr_b0]
          rfl
        · unfold OC
          rw [e2]
          exact ⟨P2, by rw [g2, g1, g0, g9'], fun j hj => by rw [f2, fu_ne (by omega), f1, f0, fu_ne (by omega), f9], fun q => Bool.noConfusion q⟩
      · have e2 := e1.trans (er2.trans (if_neg z2))
        rw [decide_eq_true z2, b01_t] at u2
        refine ⟨J2, ?_, ?_⟩
        · rw [e2, c_315, b_315_0]
          simp (disch := omega) only [rd_I_mk, rd_R_mk, rd_L_mk, rd_D_mk, kd_mk, wr_I_mk, cp_mk, gd_true, bd_ret, bd_thr, vl_none, vl_some, iN_add, iN_mul, iN_sub, iN_lt, iN_eq, iN_n, iN_m1, iN_pred, vp_iN, K0_le, nr_b0, nr_b1, m1_lt, lt_m1, iN_ne_m1, m1_ne_iN, not_lt_z, true_and, and_true, and_self, or_true, true_or, or_false, false_or, if_true, if_false, ↓reduceIte, eq_self, up_at, up_a, up_k, cp_c, cp_b, Nat.zero_add, Nat.add_zero, Nat.sub_zero, Nat.le_refl, Nat.add_sub_cancel, fu_at, fu_ne, iN_nz, n10_f, n01_f, ofN, qq_at_100, k110b, Nat.lt_irrefl, Nat.not_lt_zero, ne_eq, not_false_eq_true, not_true_eq_false, k0, r8, g9, u9, b_315_3, b_315_31, u1, b_315_34, u2, b_315_41, b_315_45, nr_b1]
          rfl
        · unfold OC
          rw [e2]
          refine ⟨P2, by rw [g2, g1, g0, g9'], fun j hj => by rw [f2, fu_ne (by omega), f1, f0, fu_ne (by omega), f9], fun _ => ?_⟩
          exact Or.inr (Or.inr (Or.inr (Or.inr (Or.inr (Or.inr (Or.inr (Or.inr (Or.inl ⟨rfl, by rw [f2, fu_ne (by omega), f1, f0, fu_at], by rw [f2, fu_at]; rfl⟩))))))))
end MRC
