/-! THE MODEL: who is heavier, who is at a rank -/
def hvB (we : Nat → Nat) (a b : Nat) : Bool := decide (we b < we a) || (decide (we a = we b) && decide (a < b))
theorem cn_countP {f : Nat → Bool} : ∀ n, cn f n = (List.range n).countP f := by
  intro n
  induction n with
  | zero => rfl
  | succ n ih =>
    rw [List.range_succ, List.countP_append, ← ih, List.countP_singleton]
    rfl
theorem hvB_irr {we : Nat → Nat} {a : Nat} : hvB we a a = false := by unfold hvB; simp
theorem hvB_asym {we : Nat → Nat} {a b : Nat} (h : hvB we a b = true) : hvB we b a = false := by
  unfold hvB at *
  rw [Bool.or_eq_true, Bool.and_eq_true, decide_eq_true_eq, decide_eq_true_eq, decide_eq_true_eq] at h
  rw [Bool.or_eq_false_iff, Bool.and_eq_false_iff, decide_eq_false_iff_not, decide_eq_false_iff_not, decide_eq_false_iff_not]
  omega
theorem countP_rank {we : Nat → Nat} {l : List Nat} (h : l.Pairwise (fun a b => hvB we a b = true)) {r : Nat} (hr : r < l.length) : l.countP (fun k => hvB we k l[r]) = r := by
  have hs : l = l.take r ++ l[r] :: l.drop (r + 1) := by
    conv => lhs; rw [← List.take_append_drop r l, List.drop_eq_getElem_cons hr]
  have hp := List.pairwise_iff_getElem.mp h
  have e1 : (l.take r).countP (fun k => hvB we k l[r]) = r := by
    have hl : (l.take r).length = r := by rw [List.length_take]; omega
    conv => rhs; rw [← hl]
    refine List.countP_eq_length.mpr (fun a ha => ?_)
    obtain ⟨i, hi, rfl⟩ := List.getElem_of_mem ha
    rw [List.getElem_take]
    rw [List.length_take] at hi
    exact hp i r (by omega) hr (by omega)
  have e2 : (l.drop (r + 1)).countP (fun k => hvB we k l[r]) = 0 := by
    refine List.countP_eq_zero.mpr (fun a ha => ?_)
    obtain ⟨i, hi, rfl⟩ := List.getElem_of_mem ha
    rw [List.getElem_drop]
    rw [List.length_drop] at hi
    rw [hvB_asym (hp r (r + 1 + i) hr (by omega) (by omega))]
    exact Bool.false_ne_true
  have e3 : l.countP (fun k => hvB we k l[r]) = (l.take r ++ l[r] :: l.drop (r + 1)).countP (fun k => hvB we k l[r]) := congrArg (fun x => List.countP (fun k => hvB we k l[r]) x) hs
  rw [e3, List.countP_append, List.countP_cons, e1, e2, hvB_irr]
  rfl
/-- how many are ahead of one -/
def ahd (P : sP) (s : Nat) : Nat := cn (fun k => hvB (p_we P) k s) (p_ns P)
theorem ahd_hf {P : sP} (hw : wP P) {r : Nat} (hr : r < p_ns P) : ahd P ((p_hf P).getD r 0) = r := by
  obtain ⟨-, -, -, -, -, hp, hq⟩ := hw
  have hl : (p_hf P).length = p_ns P := by rw [hp.length_eq, List.length_range]
  have hr2 : r < (p_hf P).length := by omega
  have hq2 : (p_hf P).Pairwise (fun a b => hvB (p_we P) a b = true) := hq.imp (fun {a b} h => by
    unfold hvB
    rw [Bool.or_eq_true, Bool.and_eq_true, decide_eq_true_eq, decide_eq_true_eq, decide_eq_true_eq]
    exact h)
  unfold ahd
  rw [cn_countP, ← hp.countP_eq, List.getD_eq_getElem?_getD, List.getElem?_eq_getElem hr2]
  exact countP_rank hq2 hr2
theorem hf_all {P : sP} (hw : wP P) {s : Nat} (hs : s < p_ns P) : ∃ r, r < p_ns P ∧ (p_hf P).getD r 0 = s := by
  obtain ⟨-, -, -, -, -, hp, hq⟩ := hw
  have hl : (p_hf P).length = p_ns P := by rw [hp.length_eq, List.length_range]
  have hm : s ∈ p_hf P := hp.mem_iff.mpr (List.mem_range.mpr hs)
  obtain ⟨i, hi, rfl⟩ := List.getElem_of_mem hm
  exact ⟨i, by omega, by rw [List.getD_eq_getElem?_getD, List.getElem?_eq_getElem hi]; rfl⟩
def rkO (P : sP) (x : Int32) : Option Nat := if inN (p_ns P) x = true then some ((p_hf P).getD (tn x) 0) else none
theorem rk_ff {P : sP} (hw : wP P) (x : Int32) : ff (fun s => iN (ahd P s) == x) 0 (p_ns P) = rkO P x := by
  have w2 := hw.2.1
  unfold rkO
  have hah : ∀ s, s < p_ns P → ahd P s < p_ns P := fun s hs => by
    obtain ⟨r, h1, h2⟩ := hf_all hw hs
    rw [← h2, ahd_hf hw h1]; exact h1
  cases hx : inN (p_ns P) x with
  | false =>
    rw [if_neg (by decide)]
    refine (ff_none _ _).mpr (fun j h1 h2 h3 => ?_)
    have hj := hah j (by omega)
    rw [beq_iff_eq] at h3
    have : inN (p_ns P) x = true := (inN_iff (by omega)).mpr ⟨_, hj, h3.symm⟩
    rw [hx] at this
    exact absurd this (by decide)
  | true =>
    obtain ⟨r, hr, rfl⟩ := (inN_iff (by omega)).mp hx
    rw [if_pos rfl, tn_iN (by omega)]
    have hs := wP_hfl hw (i := r) hr
    refine ff_is hs (by rw [ahd_hf hw hr]; exact beq_iff_eq.mpr rfl) (fun j hj h3 => ?_)
    obtain ⟨i, h1, h2⟩ := hf_all hw (s := j) (by omega)
    rw [beq_iff_eq, ← h2, ahd_hf hw h1, iN_eq (by omega) (by omega)] at h3
    rw [h3] at h2
    omega
section MR
variable {d : Nat} {I : qq_I} {τ : qq_R} {m B : Nat} {S : sS}
theorem c_isHeavier (hL : L_N τ m) (hR : R_F (I (m + 1)) S) (hw : wS B S) {a b : Nat} (ha : a < p_ns (s_P S)) (hb : b < p_ns (s_P S)) : CC (d + 1) 251 [.ref m, .int (iN a), .int (iN b)] (I, τ) = some (.inl (some (.int (b01 (hvB (p_we (s_P S)) a b)))), (I, τ)) := by
  obtain ⟨m70, k0, r0, -, -, -, -, -, -, -, -, g1, -⟩ := hL
  have w2 := hw.2.1.2.1
  have wa := (hw.2.1.2.2.2.1 a ha).2.1
  have wb := (hw.2.1.2.2.2.1 b hb).2.1
  have q1 := c_ofStatue (d := d) (I := I) k0 r0 g1 (k := a) (w := 2) (by omega) (by omega)
  have q2 := c_ofStatue (d := d) (I := I) k0 r0 g1 (k := b) (w := 2) (by omega) (by omega)
  rw [(hR.2.2.2.2.2.2.2.2.2.2.2.2.1 a ha).2.2] at q1
  rw [(hR.2.2.2.2.2.2.2.2.2.2.2.2.1 b hb).2.2] at q2
  have e1 : (iN 0 < iN (p_we (s_P S) a) - iN (p_we (s_P S) b)) = (p_we (s_P S) b < p_we (s_P S) a) := iN_ls (by omega) (by omega)
  have e2 : (iN (p_we (s_P S) a) - iN (p_we (s_P S) b) = iN 0) = (p_we (s_P S) a = p_we (s_P S) b) := by
    refine propext ⟨fun h => ?_, fun h => by rw [h]; exact Int32.sub_self _⟩
    have h2 : iN (p_we (s_P S) a) = iN (p_we (s_P S) b) := by
      have : iN (p_we (s_P S) a) - iN (p_we (s_P S) b) + iN (p_we (s_P S) b) = iN 0 + iN (p_we (s_P S) b) := congrArg (fun x => x + iN (p_we (s_P S) b)) h
      rw [Int32.sub_add_cancel, show iN 0 = (0 : Int32) from rfl, Int32.zero_add] at this
      exact this
    rwa [iN_eq (by omega) (by omega)] at h2
  unfold hvB
  rw [c_251, b_251_0]
  by_cases z1 : p_we (s_P S) b < p_we (s_P S) a
  · rw [decide_eq_true z1]
    simp only [kd_mk, k0, gd_true, q1, q2, bd_ret, vl_some, b_251_4, b_251_8, e1, z1, if_true, b_251_17, b_251_20, nr_b1]
    rfl
  · rw [decide_eq_false z1]
    by_cases z2 : p_we (s_P S) a = p_we (s_P S) b
    · rw [decide_eq_true z2]
      have e3 : (iN a < iN b) = (a < b) := iN_lt (by omega) (by omega)
      by_cases z3 : a < b
      · rw [decide_eq_true z3]
        simp only [kd_mk, k0, gd_true, q1, q2, bd_ret, vl_some, b_251_4, b_251_8, e1, z1, e2, eq_true z2, e3, z3, if_true, if_false, b_251_17, b_251_20, nr_b1]
        rfl
      · rw [decide_eq_false z3]
        simp only [kd_mk, k0, gd_true, q1, q2, bd_ret, vl_some, b_251_4, b_251_8, e1, z1, e2, eq_true z2, e3, z3, if_true, if_false, b_251_19, b_251_20, nr_b0]
        rfl
    · rw [decide_eq_false z2]
      simp only [kd_mk, k0, gd_true, q1, q2, bd_ret, vl_some, b_251_4, b_251_8, e1, z1, e2, z2, if_false, b_251_19, b_251_20, nr_b0]
      rfl
theorem c_ranked (hL : L_N τ m) (hR : R_F (I (m + 1)) S) (hw : wS B S) (x : Int32) : CC (d + 2) 252 [.ref m, .int x] (I, τ) = some (.inl (some (.int (oN (rkO (s_P S) x)))), (I, τ)) := by
  have hL0 := hL
  obtain ⟨m70, k0, r0, -, -, -, -, -, -, -, -, g1, -⟩ := hL
  have h9 := hR.2.2.2.2.2.2.2.2.2.1
  have w2 := hw.2.1.2.1
  have inner : ∀ n k s, k + n = p_ns (s_P S) → s < p_ns (s_P S) → RR (d + 2) 252 12 [some (.ref m), some (.int x), some (.int (iN s)), some (.int (iN (cn (fun k => hvB (p_we (s_P S)) k s) k))), some (.int (iN k))] [] (I, τ) = RR (d + 2) 252 12 [some (.ref m), some (.int x), some (.int (iN s)), some (.int (iN (ahd (s_P S) s))), some (.int (iN (p_ns (s_P S))))] [] (I, τ) := by
    intro n
    induction n with
    | zero =>
      intro k s hk hs
      have hk : k = p_ns (s_P S) := hk
      rw [hk]; rfl
    | succ n ih =>
      intro k s hk hs
      have e : k < p_ns (s_P S) := by omega
      have hc := @cn_le (fun k => hvB (p_we (s_P S)) k s) k
      rw [← ih (k + 1) s (by omega) hs, b_252_12]
      have hcn : cn (fun k => hvB (p_we (s_P S)) k s) (k + 1) = cn (fun k => hvB (p_we (s_P S)) k s) k + (if hvB (p_we (s_P S)) k s = true then 1 else 0) := rfl
      rw [hcn]
      by_cases z : k = s
      · subst z
        rw [hvB_irr, if_neg (show ¬ (false = true) by decide), Nat.add_zero]
        simp (disch := omega) only [rd_I_mk, rd_R_mk, rd_L_mk, rd_D_mk, kd_mk, wr_I_mk, cp_mk, gd_true, bd_ret, bd_thr, vl_none, vl_some, iN_add, iN_mul, iN_sub, iN_lt, iN_eq, iN_n, iN_m1, iN_pred, vp_iN, K0_le, nr_b0, nr_b1, m1_lt, lt_m1, iN_ne_m1, m1_ne_iN, not_lt_z, true_and, and_true, and_self, or_true, true_or, or_false, false_or, if_true, if_false, ↓reduceIte, eq_self, up_at, up_a, up_k, cp_c, cp_b, Nat.zero_add, Nat.add_zero, Nat.sub_zero, Nat.le_refl, Nat.add_sub_cancel, fu_at, fu_ne, iN_nz, n10_f, n01_f, ofN, qq_at_100, k110b, Nat.lt_irrefl, Nat.not_lt_zero, ne_eq, not_false_eq_true, not_true_eq_false, k0, r0, g1, h9, e, b_252_29, b_252_30]
      · have q := c_isHeavier (d := d) hL0 hR hw e hs
        cases hb : hvB (p_we (s_P S)) k s with
        | false =>
          rw [hb, b01_f] at q
          rw [if_neg (show ¬ (false = true) by decide), Nat.add_zero]
          simp (disch := omega) only [rd_I_mk, rd_R_mk, rd_L_mk, rd_D_mk, kd_mk, wr_I_mk, cp_mk, gd_true, bd_ret, bd_thr, vl_none, vl_some, iN_add, iN_mul, iN_sub, iN_lt, iN_eq, iN_n, iN_m1, iN_pred, vp_iN, K0_le, nr_b0, nr_b1, m1_lt, lt_m1, iN_ne_m1, m1_ne_iN, not_lt_z, true_and, and_true, and_self, or_true, true_or, or_false, false_or, if_true, if_false, ↓reduceIte, eq_self, up_at, up_a, up_k, cp_c, cp_b, Nat.zero_add, Nat.add_zero, Nat.sub_zero, Nat.le_refl, Nat.add_sub_cancel, fu_at, fu_ne, iN_nz, n10_f, n01_f, ofN, qq_at_100, k110b, Nat.lt_irrefl, Nat.not_lt_zero, ne_eq, not_false_eq_true, not_true_eq_false, k0, r0, g1, h9, e, z, q, b_252_26, b_252_29, b_252_30]
        | true =>
          rw [hb, b01_t] at q
          rw [if_pos (show true = true from rfl)]
          simp (disch := omega) only [rd_I_mk, rd_R_mk, rd_L_mk, rd_D_mk, kd_mk, wr_I_mk, cp_mk, gd_true, bd_ret, bd_thr, vl_none, vl_some, iN_add, iN_mul, iN_sub, iN_lt, iN_eq, iN_n, iN_m1, iN_pred, vp_iN, K0_le, nr_b0, nr_b1, m1_lt, lt_m1, iN_ne_m1, m1_ne_iN, not_lt_z, true_and, and_true, and_self, or_true, true_or, or_false, false_or, if_true, if_false, ↓reduceIte, eq_self, up_at, up_a, up_k, cp_c, cp_b, Nat.zero_add, Nat.add_zero, Nat.sub_zero, Nat.le_refl, Nat.add_sub_cancel, fu_at, fu_ne, iN_nz, n10_f, n01_f, ofN, qq_at_100, k110b, Nat.lt_irrefl, Nat.not_lt_zero, ne_eq, not_false_eq_true, not_true_eq_false, k0, r0, g1, h9, e, z, q, b_252_26, b_252_30]
  have outer : ∀ n s (u3 u4 : Option Value), s + n = p_ns (s_P S) → RR (d + 2) 252 2 [some (.ref m), some (.int x), some (.int (iN s)), u3, u4] [] (I, τ) = some (.inl (some (.int (oN (ff (fun s => iN (ahd (s_P S) s) == x) s n)))), (I, τ)) := by
    intro n
    induction n with
    | zero =>
      intro s u3 u4 hs
      have hs : s = p_ns (s_P S) := hs
      rw [← hs] at h9
      rw [b_252_2]
      simp (disch := omega) only [rd_I_mk, rd_R_mk, rd_L_mk, rd_D_mk, kd_mk, wr_I_mk, cp_mk, gd_true, bd_ret, bd_thr, vl_none, vl_some, iN_add, iN_mul, iN_sub, iN_lt, iN_eq, iN_n, iN_m1, iN_pred, vp_iN, K0_le, nr_b0, nr_b1, m1_lt, lt_m1, iN_ne_m1, m1_ne_iN, not_lt_z, true_and, and_true, and_self, or_true, true_or, or_false, false_or, if_true, if_false, ↓reduceIte, eq_self, up_at, up_a, up_k, cp_c, cp_b, Nat.zero_add, Nat.add_zero, Nat.sub_zero, Nat.le_refl, Nat.add_sub_cancel, fu_at, fu_ne, iN_nz, n10_f, n01_f, ofN, qq_at_100, k110b, Nat.lt_irrefl, Nat.not_lt_zero, ne_eq, not_false_eq_true, not_true_eq_false, k0, r0, g1, h9, ff, oN]
    | succ n ih =>
      intro s u3 u4 hs
      have e : s < p_ns (s_P S) := by omega
      have q := inner (p_ns (s_P S)) 0 s (Nat.zero_add _) e
      have nn : ¬ p_ns (s_P S) < p_ns (s_P S) := by omega
      have st : RR (d + 2) 252 2 [some (.ref m), some (.int x), some (.int (iN s)), u3, u4] [] (I, τ) = RR (d + 2) 252 12 [some (.ref m), some (.int x), some (.int (iN s)), some (.int (iN (ahd (s_P S) s))), some (.int (iN (p_ns (s_P S))))] [] (I, τ) := by
        rw [← q, b_252_2]
        simp (disch := omega) only [rd_I_mk, rd_R_mk, rd_L_mk, rd_D_mk, kd_mk, wr_I_mk, cp_mk, gd_true, bd_ret, bd_thr, vl_none, vl_some, iN_add, iN_mul, iN_sub, iN_lt, iN_eq, iN_n, iN_m1, iN_pred, vp_iN, K0_le, nr_b0, nr_b1, m1_lt, lt_m1, iN_ne_m1, m1_ne_iN, not_lt_z, true_and, and_true, and_self, or_true, true_or, or_false, false_or, if_true, if_false, ↓reduceIte, eq_self, up_at, up_a, up_k, cp_c, cp_b, Nat.zero_add, Nat.add_zero, Nat.sub_zero, Nat.le_refl, Nat.add_sub_cancel, fu_at, fu_ne, iN_nz, n10_f, n01_f, ofN, qq_at_100, k110b, Nat.lt_irrefl, Nat.not_lt_zero, ne_eq, not_false_eq_true, not_true_eq_false, k0, r0, g1, h9, e]
        rfl
      rw [st, b_252_12]
      by_cases z : iN (ahd (s_P S) s) = x
      · rw [ff_y (by exact beq_iff_eq.mpr z)]
        simp (disch := omega) only [rd_I_mk, rd_R_mk, rd_L_mk, rd_D_mk, kd_mk, wr_I_mk, cp_mk, gd_true, bd_ret, bd_thr, vl_none, vl_some, iN_add, iN_mul, iN_sub, iN_lt, iN_eq, iN_n, iN_m1, iN_pred, vp_iN, K0_le, nr_b0, nr_b1, m1_lt, lt_m1, iN_ne_m1, m1_ne_iN, not_lt_z, true_and, and_true, and_self, or_true, true_or, or_false, false_or, if_true, if_false, ↓reduceIte, eq_self, up_at, up_a, up_k, cp_c, cp_b, Nat.zero_add, Nat.add_zero, Nat.sub_zero, Nat.le_refl, Nat.add_sub_cancel, fu_at, fu_ne, iN_nz, n10_f, n01_f, ofN, qq_at_100, k110b, Nat.lt_irrefl, Nat.not_lt_zero, ne_eq, not_false_eq_true, not_true_eq_false, k0, r0, g1, h9, nn]
        simp only [z, if_true]
        rfl
      · rw [ff_n (by rw [beq_iff_eq]; exact z)]
        simp (disch := omega) only [rd_I_mk, rd_R_mk, rd_L_mk, rd_D_mk, kd_mk, wr_I_mk, cp_mk, gd_true, bd_ret, bd_thr, vl_none, vl_some, iN_add, iN_mul, iN_sub, iN_lt, iN_eq, iN_n, iN_m1, iN_pred, vp_iN, K0_le, nr_b0, nr_b1, m1_lt, lt_m1, iN_ne_m1, m1_ne_iN, not_lt_z, true_and, and_true, and_self, or_true, true_or, or_false, false_or, if_true, if_false, ↓reduceIte, eq_self, up_at, up_a, up_k, cp_c, cp_b, Nat.zero_add, Nat.add_zero, Nat.sub_zero, Nat.le_refl, Nat.add_sub_cancel, fu_at, fu_ne, iN_nz, n10_f, n01_f, ofN, qq_at_100, k110b, Nat.lt_irrefl, Nat.not_lt_zero, ne_eq, not_false_eq_true, not_true_eq_false, k0, r0, g1, h9, nn]
        simp only [z, if_false]
        exact ih (s + 1) _ _ (by omega)
  rw [c_252, b_252_0, outer (p_ns (s_P S)) 0 none none (Nat.zero_add _), rk_ff hw.2.1]
end MR
