/-! THE LAW: the two turns of numbers that are not whole -/
def nn48 (s n : Nat) : Bool := decide (FP.f2d (FP.fdiv (FP.i2f (iN s)) (FP.i2f (iN n))) &&& 0x7fffffffffffffff ≤ 0x7ff0000000000000) && decide (Op.cmpValue (FP.dcmp (FP.f2d (FP.fdiv (FP.i2f (iN s)) (FP.i2f (iN n)))) (FP.f2d (FP.fdiv (FP.i2f (iN s)) (FP.i2f (iN n))))) (.l) = iN 0)
theorem nn48_all : ((List.range 7).all (fun s => (List.range 6).all (fun n => nn48 s (n + 1)))) = true := by decide +kernel
theorem share_ok {S : sS} {x : UInt32} (h1 : p_ns (s_P S) ≤ 6) (h : q_share S = some x) : vf_n64 (FP.f2d x) ∧ Op.cmpValue (FP.dcmp (FP.f2d x) (FP.f2d x)) (.l) = iN 0 := by
  unfold q_share at h
  split at h
  · cases h
  · rename_i z
    cases h
    have hs := @cn_le (fun k => p_pl (s_P S) k == p_ho (s_P S) k) (p_ns (s_P S))
    generalize cn (fun k => p_pl (s_P S) k == p_ho (s_P S) k) (p_ns (s_P S)) = s at *
    have h := List.all_eq_true.mp (List.all_eq_true.mp nn48_all s (List.mem_range.mpr (by omega))) (p_ns (s_P S) - 1) (List.mem_range.mpr (by omega))
    rw [Nat.sub_add_cancel (by omega)] at h
    have h2 := Bool.and_eq_true_iff.mp h
    have a := of_decide_eq_true h2.1
    have b := of_decide_eq_true h2.2
    exact ⟨a, b⟩
section TN
variable {d L i : Nat} {xs : Nat → Int32} {I : qq_I} {τ : qq_R} {B : Nat} {C : sC}
theorem turn_47 (h : TI L xs I τ B C) (hB : B + 1400 ≤ 900000) (hi : i + 5 ≤ L) (hL : L ≤ 2560) : TT d L i 1449 xs I τ B := by
  intro u6 u7
  have k12 := h.1.1.2.1
  have z0 : vp_in (iN 0) 1 = True := vp_iN (by omega) (by omega)
  have z1 : (iN 0).toNatClampNeg = 0 := iN_n (by omega)
  obtain ⟨J, ρ, s1, hp⟩ := p_meanWeight (d := d) h.1
  cases hq : q_mean (g_S C) with
  | none =>
    rw [hq] at s1
    obtain ⟨m1, m2, m3, m4, m5, m6, m7⟩ := TI_mid h hp Sq_rf
    obtain ⟨K, s3, hn⟩ := n_meanWeight (d := d + 1) m1
    rw [hq] at s3 hn
    obtain ⟨e1, e2, e3⟩ := TI_end h (by omega) (by omega) hp Sq_rf hn
    have h7 := hn.2.1
    have k13' := m1.1.2.1
    have s1 : CC (d + 40) 177 [.ref 70] (I, τ) = some (.inr 5, (J, ρ)) := s1
    have s2 : CC (d + 41) 366 [.ref 70, .ref 319] (I, τ) = some (.inl (some (.int (iN 1))), (J, ρ)) := by
      rw [c_366, b_366_0]
      simp only [kd_mk, k12, gd_true, s1, bdh_thr, h_366_3_5, b_366_7]
    have s3 : CC (d + 41) 301 [.ref 308] (J, ρ) = some (.inl (some (.double FP.dconst0)), (K, ρ)) := s3
    have s4 : CC (d + 41) 208 [.ref 308] (K, ρ) = some (.inl (some (.int (iN 1))), (K, ρ)) := t_208 (d := d + 41) (n := 1) m1.1 h7
    refine ⟨K, ρ, _, some (.int (iN 1)), some (.double FP.dconst0), ?_, e1, e2, e3⟩
    rw [b_378_1449]
    simp only [s2, bd_ret, vl_some, b_378_1452, kd_mk, k13', gd_true, s3, b_378_1455, s4, b_378_1458, cm7, if_true, n10i, if_false, b_378_1484]
  | some x =>
    rw [hq] at s1
    obtain ⟨m1, m2, m3, m4, m5, m6, m7⟩ := TI_mid h hp (Sq_D (a := 319) (k := 0) (v := x))
    obtain ⟨K, s3, hn⟩ := n_meanWeight (d := d + 1) m1
    rw [hq] at s3 hn
    obtain ⟨e1, e2, e3⟩ := TI_end h (by omega) (by omega) hp (Sq_D (a := 319) (k := 0) (v := x)) hn
    have h7 := hn.2.1
    have k13' := m1.1.2.1
    have kr : tK ρ 319 = (106, 1) := by rw [← Sq_K (Sq_D (a := 319) (k := 0) (v := x))]; exact m5
    have s1 : CC (d + 40) 177 [.ref 70] (I, τ) = some (.inl (some (.double x)), (J, ρ)) := s1
    have s2 : CC (d + 41) 366 [.ref 70, .ref 319] (I, τ) = some (.inl (some (.int (iN 0))), (J, uD ρ 319 0 x)) := by
      rw [c_366, b_366_0]
      simp only [kd_mk, k12, gd_true, s1, bdh_ret, vl_some, b_366_4, kr, z0, K0_le (show 70 ≤ 319 by omega), and_self, true_and, and_true, wD_mk, z1, b_366_5]
    have s3 : CC (d + 41) 301 [.ref 308] (J, uD ρ 319 0 x) = some (.inl (some (.double x)), (K, uD ρ 319 0 x)) := s3
    have s4 : CC (d + 41) 208 [.ref 308] (K, uD ρ 319 0 x) = some (.inl (some (.int (iN 0))), (K, uD ρ 319 0 x)) := t_208 (d := d + 41) (n := 0) m1.1 h7
    refine ⟨K, uD ρ 319 0 x, _, some (.int (iN 0)), some (.double x), ?_, e1, e2, e3⟩
    rw [b_378_1449]
    simp only [s2, bd_ret, vl_some, b_378_1452, kd_mk, k13', gd_true, s3, b_378_1455, s4, b_378_1458, cm7, if_true, m5, z0, z1, true_and, and_true, and_self, uD_at]
    by_cases hc : Op.cmpValue (FP.dcmp x x) (.l) = iN 0
    · rw [if_pos hc, b_378_1484]
    · rw [if_neg hc, if_neg hc, if_neg hc, b_378_1484]
theorem turn_48 (h : TI L xs I τ B C) (hB : B + 1400 ≤ 900000) (hi : i + 5 ≤ L) (hL : L ≤ 2560) : TT d L i 1485 xs I τ B := by
  intro u6 u7
  have k12 := h.1.1.2.1
  have z0 : vp_in (iN 0) 1 = True := vp_iN (by omega) (by omega)
  have z1 : (iN 0).toNatClampNeg = 0 := iN_n (by omega)
  obtain ⟨J, ρ, s1, hp⟩ := p_homeShare (d := d) h.1
  cases hq : q_share (g_S C) with
  | none =>
    rw [hq] at s1
    obtain ⟨m1, m2, m3, m4, m5, m6, m7⟩ := TI_mid h hp Sq_rf
    obtain ⟨K, s3, hn⟩ := n_homeShare (d := d + 1) m1
    rw [hq] at s3 hn
    obtain ⟨e1, e2, e3⟩ := TI_end h (by omega) (by omega) hp Sq_rf hn
    have h7 := hn.2.1
    have k13' := m1.1.2.1
    have s1 : CC (d + 40) 178 [.ref 70] (I, τ) = some (.inr 5, (J, ρ)) := s1
    have s2 : CC (d + 41) 367 [.ref 70, .ref 319] (I, τ) = some (.inl (some (.int (iN 1))), (J, ρ)) := by
      rw [c_367, b_367_0]
      simp only [kd_mk, k12, gd_true, s1, bdh_thr, h_367_3_5, b_367_8]
    have s3 : CC (d + 41) 302 [.ref 308] (J, ρ) = some (.inl (some (.float FP.fconst0)), (K, ρ)) := s3
    have s4 : CC (d + 41) 208 [.ref 308] (K, ρ) = some (.inl (some (.int (iN 1))), (K, ρ)) := t_208 (d := d + 41) (n := 1) m1.1 h7
    refine ⟨K, ρ, _, some (.int (iN 1)), some (.float FP.fconst0), ?_, e1, e2, e3⟩
    rw [b_378_1485]
    simp only [s2, bd_ret, vl_some, b_378_1488, kd_mk, k13', gd_true, s3, b_378_1491, s4, b_378_1494, cm7, if_true, n10i, if_false, b_378_1521]
  | some x =>
    rw [hq] at s1
    obtain ⟨m1, m2, m3, m4, m5, m6, m7⟩ := TI_mid h hp (Sq_D (a := 319) (k := 0) (v := (FP.f2d x)))
    obtain ⟨K, s3, hn⟩ := n_homeShare (d := d + 1) m1
    rw [hq] at s3 hn
    obtain ⟨e1, e2, e3⟩ := TI_end h (by omega) (by omega) hp (Sq_D (a := 319) (k := 0) (v := (FP.f2d x))) hn
    have h7 := hn.2.1
    have k13' := m1.1.2.1
    have kr : tK ρ 319 = (106, 1) := by rw [← Sq_K (Sq_D (a := 319) (k := 0) (v := (FP.f2d x)))]; exact m5
    obtain ⟨o1, o2⟩ := share_ok h.1.2.2.1.2.1.2.1 hq
    have o1' := eq_true o1
    have s1 : CC (d + 40) 178 [.ref 70] (I, τ) = some (.inl (some (.float x)), (J, ρ)) := s1
    have s2 : CC (d + 41) 367 [.ref 70, .ref 319] (I, τ) = some (.inl (some (.int (iN 0))), (J, uD ρ 319 0 (FP.f2d x))) := by
      rw [c_367, b_367_0]
      simp only [kd_mk, k12, gd_true, s1, bdh_ret, vl_some, b_367_4, kr, z0, K0_le (show 70 ≤ 319 by omega), and_self, true_and, and_true, o1', true_and, wD_mk, z1, b_367_6]
    have s3 : CC (d + 41) 302 [.ref 308] (J, uD ρ 319 0 (FP.f2d x)) = some (.inl (some (.float x)), (K, uD ρ 319 0 (FP.f2d x))) := s3
    have s4 : CC (d + 41) 208 [.ref 308] (K, uD ρ 319 0 (FP.f2d x)) = some (.inl (some (.int (iN 0))), (K, uD ρ 319 0 (FP.f2d x))) := t_208 (d := d + 41) (n := 0) m1.1 h7
    refine ⟨K, uD ρ 319 0 (FP.f2d x), _, some (.int (iN 0)), some (.float x), ?_, e1, e2, e3⟩
    rw [b_378_1485]
    simp only [s2, bd_ret, vl_some, b_378_1488, kd_mk, k13', gd_true, s3, b_378_1491, s4, b_378_1494, cm7, if_true, m5, z0, z1, true_and, and_true, and_self, o1', true_and, uD_at]
    rw [if_pos o2, b_378_1521]
end TN
