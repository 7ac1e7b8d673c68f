/-! PUBLIC CALLS THAT ASK: what each asks first -/
theorem pigeon : ∀ n (f : Nat → Nat), (∀ i, i ≤ n → f i < n) → ∃ i j, i < j ∧ j ≤ n ∧ f i = f j := by
  intro n
  induction n with
  | zero => intro f h; exact absurd (h 0 (Nat.le_refl _)) (Nat.not_lt_zero _)
  | succ n ih =>
    intro f h
    by_cases q : ∃ i, i ≤ n ∧ f i = f (n + 1)
    · obtain ⟨i, h1, h2⟩ := q
      exact ⟨i, n + 1, by omega, Nat.le_refl _, h2⟩
    · have hv := h (n + 1) (Nat.le_refl _)
      obtain ⟨i, j, h1, h2, h3⟩ := ih (fun i => if f i = n then f (n + 1) else f i) (fun i hi => by
        show (if f i = n then f (n + 1) else f i) < n
        by_cases e : f i = n
        · rw [if_pos e]
          have : f (n + 1) ≠ n := fun z => q ⟨i, hi, by rw [e, z]⟩
          omega
        · rw [if_neg e]
          have := h i (by omega)
          omega)
      have h3 : (if f i = n then f (n + 1) else f i) = (if f j = n then f (n + 1) else f j) := h3
      refine ⟨i, j, h1, by omega, ?_⟩
      by_cases e1 : f i = n
      · by_cases e2 : f j = n
        · rw [e1, e2]
        · rw [if_pos e1, if_neg e2] at h3
          exact absurd ⟨j, h2, h3.symm⟩ q
      · by_cases e2 : f j = n
        · rw [if_neg e1, if_pos e2] at h3
          exact absurd ⟨i, by omega, h3⟩ q
        · rw [if_neg e1, if_neg e2] at h3
          exact h3
/-- on from n steps a walk among n is on a round -/
theorem round_ex {g : Nat → Nat} {n : Nat} (h : ∀ k, k < n → g k < n) {x : Nat} (hx : x < n) : ∃ L, 1 ≤ L ∧ L ≤ n ∧ it g L (it g n x) = it g n x := by
  obtain ⟨i, j, h1, h2, h3⟩ := pigeon n (fun i => it g i x) (fun i _ => it_lt h i x hx)
  have h3 : it g i x = it g j x := h3
  refine ⟨j - i, by omega, by omega, ?_⟩
  have e1 : it g n x = it g (n - i) (it g i x) := by rw [← it_add]; congr 1; omega
  have e2 : it g (j - i) (it g n x) = it g (n - i) (it g j x) := by rw [← it_add, ← it_add]; congr 1; omega
  rw [e2, e1, h3]
def rlen (P : sP) (x : Nat) : Nat := match ff (fun L => it (p_ar P) L (it (p_ar P) (p_np P) x) == it (p_ar P) (p_np P) x) 1 (p_np P) with
  | none => 0
  | some L => L
theorem rlen_ok {P : sP} (hw : wP P) {x : Nat} (hx : x < p_np P) : 1 ≤ rlen P x ∧ rlen P x ≤ p_np P ∧ it (p_ar P) (rlen P x) (it (p_ar P) (p_np P) x) = it (p_ar P) (p_np P) x ∧ ∀ j, 1 ≤ j → j < rlen P x → it (p_ar P) j (it (p_ar P) (p_np P) x) ≠ it (p_ar P) (p_np P) x := by
  unfold rlen
  cases hf : ff (fun L => it (p_ar P) L (it (p_ar P) (p_np P) x) == it (p_ar P) (p_np P) x) 1 (p_np P) with
  | none =>
    obtain ⟨L, h1, h2, h3⟩ := round_ex hw.2.2.1 hx
    exact absurd (beq_iff_eq.mpr h3) ((ff_none _ _).mp hf L h1 (by omega))
  | some L =>
    obtain ⟨h1, h2, h3, h4⟩ := ff_some _ _ _ hf
    exact ⟨h1, (by omega : L ≤ p_np P), beq_iff_eq.mp h3, fun j h5 h6 z => h4 j h5 h6 (beq_iff_eq.mpr z)⟩
/-- what an asking call tells: a number, or which exception -/
abbrev qR : Type := Sum Int32 Nat
def oO : qR → qq_O
  | .inl v => .inl (some (.int v))
  | .inr x => .inr x
section HE
variable {d : Nat} {I : qq_I} {τ : qq_R} {c Z B : Nat} {C : sC}
theorem c_reqP (h : R_C I τ c Z B C) (x : Int32) : CC (d + 1) 192 [.ref c, .int x] (I, τ) = if inN (p_np (s_P (g_S C))) x = true then some (.inl none, (I, τ)) else some (.inr 0, (nwI τ I, nT τ (201, 0) 6)) := by
  obtain ⟨g1, g2, g3, g4, g5, gx⟩ := h
  have k12 := g1.2.1
  have e0 := g1.2.2.1
  have hl := g1.2.2.2.2.2.2.2.2.2.2.2.1
  have k8 := hl.2.1
  have f0 := hl.2.2.1
  have k7 := hl.2.2.2.2.2.1.2.1
  have q := c_hasPed (d := d) (τ := τ) hl.2.2.2.2.2.1 g2.1 g3.2.1 x
  rw [c_192, b_192_0]
  cases hx : inN (p_np (s_P (g_S C))) x with
  | false =>
    rw [hx, b01_f] at q
    simp (disch := omega) only [rd_I_mk, rd_R_mk, rd_L_mk, rd_D_mk, kd_mk, wr_I_mk, cp_mk, gd_true, bd_ret, bd_thr, vl_none, vl_some, iN_add, iN_mul, iN_sub, iN_lt, iN_eq, iN_n, iN_m1, iN_pred, vp_iN, K0_le, nr_b0, nr_b1, m1_lt, lt_m1, iN_ne_m1, m1_ne_iN, not_lt_z, true_and, and_true, and_self, or_true, true_or, or_false, false_or, if_true, if_false, ↓reduceIte, eq_self, up_at, up_a, up_k, cp_c, cp_b, Nat.zero_add, Nat.add_zero, Nat.sub_zero, Nat.le_refl, Nat.add_sub_cancel, fu_at, fu_ne, iN_nz, n10_f, n01_f, ofN, qq_at_100, k110b, Nat.lt_irrefl, Nat.not_lt_zero, ne_eq, not_false_eq_true, not_true_eq_false, k12, e0, k8, f0, k7, q, b_192_5, nw_mk, Bool.false_eq_true]
  | true =>
    rw [hx, b01_t] at q
    simp (disch := omega) only [rd_I_mk, rd_R_mk, rd_L_mk, rd_D_mk, kd_mk, wr_I_mk, cp_mk, gd_true, bd_ret, bd_thr, vl_none, vl_some, iN_add, iN_mul, iN_sub, iN_lt, iN_eq, iN_n, iN_m1, iN_pred, vp_iN, K0_le, nr_b0, nr_b1, m1_lt, lt_m1, iN_ne_m1, m1_ne_iN, not_lt_z, true_and, and_true, and_self, or_true, true_or, or_false, false_or, if_true, if_false, ↓reduceIte, eq_self, up_at, up_a, up_k, cp_c, cp_b, Nat.zero_add, Nat.add_zero, Nat.sub_zero, Nat.le_refl, Nat.add_sub_cancel, fu_at, fu_ne, iN_nz, n10_f, n01_f, ofN, qq_at_100, k110b, Nat.lt_irrefl, Nat.not_lt_zero, ne_eq, not_false_eq_true, not_true_eq_false, k12, e0, k8, f0, k7, q, b_192_5]
theorem c_reqS (h : R_C I τ c Z B C) (x : Int32) : CC (d + 1) 193 [.ref c, .int x] (I, τ) = if inN (p_ns (s_P (g_S C))) x = true then some (.inl none, (I, τ)) else some (.inr 0, (nwI τ I, nT τ (201, 0) 6)) := by
  obtain ⟨g1, g2, g3, g4, g5, gx⟩ := h
  have k12 := g1.2.1
  have e0 := g1.2.2.1
  have hl := g1.2.2.2.2.2.2.2.2.2.2.2.1
  have k8 := hl.2.1
  have f0 := hl.2.2.1
  have k7 := hl.2.2.2.2.2.1.2.1
  have q := c_hasSta (d := d) (τ := τ) hl.2.2.2.2.2.1 g2.1 g3.2.1 x
  rw [c_193, b_193_0]
  cases hx : inN (p_ns (s_P (g_S C))) x with
  | false =>
    rw [hx, b01_f] at q
    simp (disch := omega) only [rd_I_mk, rd_R_mk, rd_L_mk, rd_D_mk, kd_mk, wr_I_mk, cp_mk, gd_true, bd_ret, bd_thr, vl_none, vl_some, iN_add, iN_mul, iN_sub, iN_lt, iN_eq, iN_n, iN_m1, iN_pred, vp_iN, K0_le, nr_b0, nr_b1, m1_lt, lt_m1, iN_ne_m1, m1_ne_iN, not_lt_z, true_and, and_true, and_self, or_true, true_or, or_false, false_or, if_true, if_false, ↓reduceIte, eq_self, up_at, up_a, up_k, cp_c, cp_b, Nat.zero_add, Nat.add_zero, Nat.sub_zero, Nat.le_refl, Nat.add_sub_cancel, fu_at, fu_ne, iN_nz, n10_f, n01_f, ofN, qq_at_100, k110b, Nat.lt_irrefl, Nat.not_lt_zero, ne_eq, not_false_eq_true, not_true_eq_false, k12, e0, k8, f0, k7, q, b_193_5, nw_mk, Bool.false_eq_true]
  | true =>
    rw [hx, b01_t] at q
    simp (disch := omega) only [rd_I_mk, rd_R_mk, rd_L_mk, rd_D_mk, kd_mk, wr_I_mk, cp_mk, gd_true, bd_ret, bd_thr, vl_none, vl_some, iN_add, iN_mul, iN_sub, iN_lt, iN_eq, iN_n, iN_m1, iN_pred, vp_iN, K0_le, nr_b0, nr_b1, m1_lt, lt_m1, iN_ne_m1, m1_ne_iN, not_lt_z, true_and, and_true, and_self, or_true, true_or, or_false, false_or, if_true, if_false, ↓reduceIte, eq_self, up_at, up_a, up_k, cp_c, cp_b, Nat.zero_add, Nat.add_zero, Nat.sub_zero, Nat.le_refl, Nat.add_sub_cancel, fu_at, fu_ne, iN_nz, n10_f, n01_f, ofN, qq_at_100, k110b, Nat.lt_irrefl, Nat.not_lt_zero, ne_eq, not_false_eq_true, not_true_eq_false, k12, e0, k8, f0, k7, q, b_193_5]
theorem c_reqB (x : Int32) {lo hi : Nat} : CC (d + 1) 195 [.int x, .int (iN lo), .int (iN hi)] (I, τ) = if inB lo hi x = true then some (.inl none, (I, τ)) else some (.inr 1, (nwI τ I, nT τ (201, 0) 6)) := by
  have q := c_isBetween (d := d) (I := I) (τ := τ) (lo := lo) (hi := hi) x
  rw [c_195, b_195_0]
  cases hx : inB lo hi x with
  | false =>
    rw [hx, b01_f] at q
    simp (disch := omega) only [rd_I_mk, rd_R_mk, rd_L_mk, rd_D_mk, kd_mk, wr_I_mk, cp_mk, gd_true, bd_ret, bd_thr, vl_none, vl_some, iN_add, iN_mul, iN_sub, iN_lt, iN_eq, iN_n, iN_m1, iN_pred, vp_iN, K0_le, nr_b0, nr_b1, m1_lt, lt_m1, iN_ne_m1, m1_ne_iN, not_lt_z, true_and, and_true, and_self, or_true, true_or, or_false, false_or, if_true, if_false, ↓reduceIte, eq_self, up_at, up_a, up_k, cp_c, cp_b, Nat.zero_add, Nat.add_zero, Nat.sub_zero, Nat.le_refl, Nat.add_sub_cancel, fu_at, fu_ne, iN_nz, n10_f, n01_f, ofN, qq_at_100, k110b, Nat.lt_irrefl, Nat.not_lt_zero, ne_eq, not_false_eq_true, not_true_eq_false, q, b_195_4, nw_mk, Bool.false_eq_true]
  | true =>
    rw [hx, b01_t] at q
    simp (disch := omega) only [rd_I_mk, rd_R_mk, rd_L_mk, rd_D_mk, kd_mk, wr_I_mk, cp_mk, gd_true, bd_ret, bd_thr, vl_none, vl_some, iN_add, iN_mul, iN_sub, iN_lt, iN_eq, iN_n, iN_m1, iN_pred, vp_iN, K0_le, nr_b0, nr_b1, m1_lt, lt_m1, iN_ne_m1, m1_ne_iN, not_lt_z, true_and, and_true, and_self, or_true, true_or, or_false, false_or, if_true, if_false, ↓reduceIte, eq_self, up_at, up_a, up_k, cp_c, cp_b, Nat.zero_add, Nat.add_zero, Nat.sub_zero, Nat.le_refl, Nat.add_sub_cancel, fu_at, fu_ne, iN_nz, n10_f, n01_f, ofN, qq_at_100, k110b, Nat.lt_irrefl, Nat.not_lt_zero, ne_eq, not_false_eq_true, not_true_eq_false, q, b_195_4]
theorem c_reqR (x : Int32) {n : Nat} : CC d 196 [.int x, .int (iN n)] (I, τ) = if inN n x = true then some (.inl none, (I, τ)) else some (.inr 3, (nwI τ I, nT τ (201, 0) 6)) := by
  rw [c_196, b_196_0]
  unfold inN
  by_cases h1 : x < iN 0
  · rw [if_pos h1, decide_eq_true h1, b_196_5, nw_mk]
    rfl
  · rw [if_neg h1, decide_eq_false h1]
    by_cases h2 : x < iN n
    · rw [if_pos h2, decide_eq_true h2]
      rfl
    · rw [if_neg h2, decide_eq_false h2, b_196_5, nw_mk]
      rfl
theorem c_exO {o : Option Nat} (h : ∀ k, o = some k → k < 1000000) : CC d 197 [.int (oN o)] (I, τ) = match o with
    | none => some (.inr 3, (nwI τ I, nT τ (201, 0) 6))
    | some k => some (.inl (some (.int (iN k))), (I, τ)) := by
  rw [c_197, b_197_0]
  cases o with
  | none => exact if_pos rfl
  | some k =>
    have hk := h k rfl
    exact if_neg (fun z => by
      rw [show oN (some k) = iN k from rfl, iN_ne_m1 (by omega)] at z
      exact z)
theorem c_pos (h : R_C I τ c Z B C) (x : Int32) : CC (d + 1) 199 [.ref c, .int x] (I, τ) = match fiX (s_U (g_S C)) x with
    | none => some (.inr 3, (nwI τ I, nT τ (201, 0) 6))
    | some k => some (.inl (some (.int (iN k))), (I, τ)) := by
  obtain ⟨g1, g2, g3, g4, g5, gx⟩ := h
  have k12 := g1.2.1
  have e0 := g1.2.2.1
  have hl := g1.2.2.2.2.2.2.2.2.2.2.2.1
  have k8 := hl.2.1
  have f1 := hl.2.2.2.1
  have k7 := hl.2.2.2.2.2.2.1.2.1
  have w1 := g3.2.2.1.1
  have q := c_find (d := d) (τ := τ) hl.2.2.2.2.2.2.1 g2.2.1 g3.2.2.1 x
  rw [c_199, b_199_0]
  cases hx : fiX (s_U (g_S C)) x with
  | none =>
    rw [hx] at q
    have q2 : CC d 197 [.int (oN none)] (I, τ) = some (.inr 3, (nwI τ I, nT τ (201, 0) 6)) := c_exO (o := none) (fun k hk => by cases hk)
    simp (disch := omega) only [rd_I_mk, rd_R_mk, rd_L_mk, rd_D_mk, kd_mk, wr_I_mk, cp_mk, gd_true, bd_ret, bd_thr, vl_none, vl_some, iN_add, iN_mul, iN_sub, iN_lt, iN_eq, iN_n, iN_m1, iN_pred, vp_iN, K0_le, nr_b0, nr_b1, m1_lt, lt_m1, iN_ne_m1, m1_ne_iN, not_lt_z, true_and, and_true, and_self, or_true, true_or, or_false, false_or, if_true, if_false, ↓reduceIte, eq_self, up_at, up_a, up_k, cp_c, cp_b, Nat.zero_add, Nat.add_zero, Nat.sub_zero, Nat.le_refl, Nat.add_sub_cancel, fu_at, fu_ne, iN_nz, n10_f, n01_f, ofN, qq_at_100, k110b, Nat.lt_irrefl, Nat.not_lt_zero, ne_eq, not_false_eq_true, not_true_eq_false, k12, e0, k8, f1, k7, q, b_199_5, q2]
  | some k =>
    have hk := fiX_lt hx
    rw [hx] at q
    have q2 : CC d 197 [.int (oN (some k))] (I, τ) = some (.inl (some (.int (iN k))), (I, τ)) := c_exO (o := some k) (fun j hj => by cases hj; omega)
    simp (disch := omega) only [rd_I_mk, rd_R_mk, rd_L_mk, rd_D_mk, kd_mk, wr_I_mk, cp_mk, gd_true, bd_ret, bd_thr, vl_none, vl_some, iN_add, iN_mul, iN_sub, iN_lt, iN_eq, iN_n, iN_m1, iN_pred, vp_iN, K0_le, nr_b0, nr_b1, m1_lt, lt_m1, iN_ne_m1, m1_ne_iN, not_lt_z, true_and, and_true, and_self, or_true, true_or, or_false, false_or, if_true, if_false, ↓reduceIte, eq_self, up_at, up_a, up_k, cp_c, cp_b, Nat.zero_add, Nat.add_zero, Nat.sub_zero, Nat.le_refl, Nat.add_sub_cancel, fu_at, fu_ne, iN_nz, n10_f, n01_f, ofN, qq_at_100, k110b, Nat.lt_irrefl, Nat.not_lt_zero, ne_eq, not_false_eq_true, not_true_eq_false, k12, e0, k8, f1, k7, q, b_199_5, q2, b_199_6]
theorem PC_fr (h : R_C I τ c Z B C) {I' : qq_I} {τ' : qq_R} (hF : ∀ a, a < tZ τ → (a < c + 18 ∨ (c + 35 ≤ a ∧ a < c + 190) ∨ c + 220 ≤ a) → I' a = I a) (hL : Lq (c + 219) τ τ') : PC I τ c Z B I' τ' C := by
  have hz := R_C_Z h
  have hzz : tZ τ' = tZ τ := by unfold tZ; rw [hL.2.1]
  have huu : tU τ' = tU τ := by unfold tU; rw [hL.2.1]
  refine ⟨R_C_fr h (Tq_Lq hL) hF, ⟨by omega, fun a ha => ⟨Lq_K hL, fun hn => ?_⟩⟩, by omega, by omega⟩
  have hc : a < c ∨ c + 238 ≤ a := by
    rcases Nat.lt_or_ge a c with q | q
    · exact Or.inl q
    · rcases Nat.lt_or_ge a (c + 238) with r | r
      · exact absurd (Or.inl ⟨q, r⟩) hn
      · exact Or.inr r
  exact ⟨hF a ha (by omega), by rw [hL.1], hL.2.2 a (by omega), by rw [hL.2.1]⟩
end HE
