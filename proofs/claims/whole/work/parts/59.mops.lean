/-! THE MODEL: its commands -/
/-- which exception of a list a fault is -/
def tc (l : List Nat) (g : Nat) : Nat := if g = 45 then 0 else l.idxOf g + 1
def MP (m : Nat) (I I' : qq_I) : Prop := (∀ a, a ≠ m → a ≠ m + 1 → a ≠ m + 6 → I' a = I a) ∧ (∀ k, k ≠ 7 → I' m k = I m k)
theorem MP_rf {m : Nat} {I : qq_I} : MP m I I := ⟨fun _ _ _ _ => rfl, fun _ _ => rfl⟩
theorem MP_tr {m : Nat} {I I' I'' : qq_I} (h : MP m I I') (h2 : MP m I' I'') : MP m I I'' := ⟨fun a h1 h3 h4 => (h2.1 a h1 h3 h4).trans (h.1 a h1 h3 h4), fun k hk => (h2.2 k hk).trans (h.2 k hk)⟩
theorem MP_7 {m : Nat} {I : qq_I} {v : Int32} : MP m I (up_2 I m 7 v) := ⟨fun a h _ _ => up_c h, fun k hk => up_k hk⟩
theorem MP_s {m j : Nat} {I : qq_I} {v : Int32} : MP m I (up_2 I (m + 1) j v) := ⟨fun a _ h _ => up_c h, fun k _ => by rw [up_c (by omega)]⟩
/-- behind a command of the model: what it tells, the state, what it threw -/
def MC (m : Nat) (I : qq_I) (I' : qq_I) (l : List Nat) (g : Nat) (S S' : sS) : Prop := R_F (I' (m + 1)) (if g = 45 then S' else S) ∧ I' m 7 = iN (tc l g) ∧ MP m I I'
def mV (g : Nat) (v : Int32) : Int32 := if g = 45 then v else iN 0
section MM
variable {d : Nat} {I : qq_I} {τ : qq_R} {m B : Nat} {S : sS}
theorem R_F_7 {v : Int32} (h : R_F (I (m + 1)) S) : R_F (up_2 I m 7 v (m + 1)) S := by rw [up_c (by omega)]; exact h
/-- a command that throws at once -/
theorem MC_thr {l : List Nat} {g n : Nat} {S' : sS} {J : qq_I} (h : R_F (J (m + 1)) S) (hJ : MP m I J) (hg : g ≠ 45) (hn : J m 7 = iN n) (ht : tc l g = n) : MC m I J l g S S' :=
  ⟨by rw [if_neg hg]; exact h, by rw [ht]; exact hn, hJ⟩
theorem m_ped (hL : L_N τ m) (hR : R_F (I (m + 1)) S) (hw : wS B S) : ∃ I', CC (d + 1) 222 [.ref m] (I, τ) = some (.inl (some (.int (mV (ft_ped S) (o_ped S).1))), (I', τ)) ∧ MC m I I' [115] (ft_ped S) S (o_ped S).2 := by
  have hR0 := hR
  obtain ⟨m70, k0, r0, -, -, -, -, -, -, -, -, g1, -⟩ := hL
  obtain ⟨h0, h1, h2, h3, h4, h5, h6, h7, h8, h9, h10, h11, h12, h13, h14⟩ := hR
  have w1 := hw.2.1.1
  have w2 := hw.2.1.2.1
  have w3 := hw.2.2.1.1
  unfold mV ft_ped
  by_cases z : p_np (s_P S) < 8
  · have z2 : ¬ p_np (s_P S) = 8 := by omega
    have q := c_isThrown (d := d) (I := I) (τ := τ) (m := m) k0 m70 (p := false) (n := 1)
    rw [b01_f, if_neg (show ¬ (false = true) by decide)] at q
    rw [if_pos z, if_pos rfl]
    refine ⟨up_2 (up_2 (up_2 I m 7 (iN 0)) (m + 1) (11 + p_np (s_P S)) (iN (p_np (s_P S)))) (m + 1) 8 (iN (p_np (s_P S) + 1)), ?_, ?_, ?_, MP_tr MP_7 (MP_tr MP_s MP_s)⟩
    · have j8 : up_2 I m 7 (iN 0) (m + 1) 8 = iN (p_np (s_P S)) := by rw [up_c (by omega)]; exact h8
      rw [c_222, b_222_0]
      simp (disch := omega) only [rd_I_mk, rd_R_mk, rd_L_mk, rd_D_mk, kd_mk, wr_I_mk, cp_mk, gd_true, bd_ret, bd_thr, vl_none, vl_some, iN_add, iN_mul, iN_sub, iN_lt, iN_eq, iN_n, iN_m1, iN_pred, vp_iN, K0_le, nr_b0, nr_b1, m1_lt, lt_m1, iN_ne_m1, m1_ne_iN, not_lt_z, true_and, and_true, and_self, or_true, true_or, or_false, false_or, if_true, if_false, ↓reduceIte, eq_self, up_at, up_a, up_k, cp_c, cp_b, Nat.zero_add, Nat.add_zero, Nat.sub_zero, Nat.le_refl, Nat.add_sub_cancel, fu_at, fu_ne, iN_nz, n10_f, n01_f, ofN, qq_at_100, k110b, Nat.lt_irrefl, Nat.not_lt_zero, ne_eq, not_false_eq_true, not_true_eq_false, k0, r0, g1, h8, z2, b_222_10, q, b_222_12, b_222_28, b_222_36, j8]
      rfl
    · rw [if_pos rfl]
      have e : ∀ k, up_2 I m 7 (iN 0) (m + 1) k = I (m + 1) k := fun k => by rw [up_c (by omega)]
      refine ⟨by rw [up_k (by omega), up_k (by omega), e]; exact h0, by rw [up_k (by omega), up_k (by omega), e]; exact h1, by rw [up_k (by omega), up_k (by omega), e]; exact h2, by rw [up_k (by omega), up_k (by omega), e]; exact h3, by rw [up_k (by omega), up_k (by omega), e]; exact h4, by rw [up_k (by omega), up_k (by omega), e]; exact h5, by rw [up_k (by omega), up_k (by omega), e]; exact h6, by rw [up_k (by omega), up_k (by omega), e]; exact h7, up_at, by rw [up_k (by omega), up_k (by omega), e]; exact h9, by rw [up_k (by omega), up_k (by omega), e]; exact h10, fun k hk => ?_, fun k hk => ?_, fun k hk => ?_, fun w hw => ?_⟩
      · have hk : k < p_np (s_P S) + 1 := hk
        rw [up_k (by omega)]
        show _ = iN (fu (p_ar (s_P S)) (p_np (s_P S)) (p_np (s_P S)) k)
        by_cases y : k = p_np (s_P S)
        · rw [y, up_at, fu_at]
        · rw [up_k (by omega), fu_ne y, e]; exact h11 k (by omega)
      · have hk : k < p_ns (s_P S) := hk
        rw [up_k (by omega), up_k (by omega), up_k (by omega), up_k (by omega), up_k (by omega), up_k (by omega), e, e, e]; exact h12 k hk
      · have hk : k < un (s_U S) := hk
        rw [up_k (by omega), up_k (by omega), up_k (by omega), up_k (by omega), up_k (by omega), up_k (by omega), up_k (by omega), up_k (by omega), up_k (by omega), up_k (by omega), up_k (by omega), up_k (by omega), e, e, e, e, e, e]; exact h13 k hk
      · rw [up_k (by omega), up_k (by omega), e]; exact h14 w hw
    · rw [up_c (by omega), up_c (by omega), up_at]; rfl
  · have z2 : p_np (s_P S) = 8 := by omega
    have q := c_isThrown (d := d) (I := I) (τ := τ) (m := m) k0 m70 (p := true) (n := 1)
    rw [b01_t, if_pos rfl] at q
    rw [z2] at h8
    rw [if_neg z, if_neg (by omega)]
    refine ⟨up_2 I m 7 (iN 1), ?_, MC_thr (R_F_7 hR0) MP_7 (by omega) up_at rfl⟩
    rw [c_222, b_222_0]
    simp (disch := omega) only [rd_I_mk, rd_R_mk, rd_L_mk, rd_D_mk, kd_mk, wr_I_mk, cp_mk, gd_true, bd_ret, bd_thr, vl_none, vl_some, iN_add, iN_mul, iN_sub, iN_lt, iN_eq, iN_n, iN_m1, iN_pred, vp_iN, K0_le, nr_b0, nr_b1, m1_lt, lt_m1, iN_ne_m1, m1_ne_iN, not_lt_z, true_and, and_true, and_self, or_true, true_or, or_false, false_or, if_true, if_false, ↓reduceIte, eq_self, up_at, up_a, up_k, cp_c, cp_b, Nat.zero_add, Nat.add_zero, Nat.sub_zero, Nat.le_refl, Nat.add_sub_cancel, fu_at, fu_ne, iN_nz, n10_f, n01_f, ofN, qq_at_100, k110b, Nat.lt_irrefl, Nat.not_lt_zero, ne_eq, not_false_eq_true, not_true_eq_false, k0, r0, g1, h8, b_222_10, q, b_222_12]
end MM
