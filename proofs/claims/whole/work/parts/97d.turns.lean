/-! THE LAW: its turns -/
section TN
variable {d L i : Nat} {xs : Nat → Int32} {I : qq_I} {τ : qq_R} {B : Nat} {C : sC}
theorem turn_40 (h : TI L xs I τ B C) (hB : B + 1400 ≤ 900000) (hi : i + 5 ≤ L) (hL : L ≤ 2560) : TT d L i 1400 xs I τ B := by
  intro u6 u7
  have k1 := h.2.2.2.2.2.1
  have x0 := h.2.2.2.2.2.2
  have k12 := h.1.1.2.1
  have k13 := h.2.1.1.2.1
  obtain ⟨J, ρ, s1, hp⟩ := p_marbleTotal (d := d + 1) h.1
  obtain ⟨m1, m2, m3, m4, m5, m6, m7⟩ := TI_mid h hp Sq_rf
  obtain ⟨K, s3, hn⟩ := n_marbleTotal (d := d + 1) m1
  obtain ⟨e1, e2, e3⟩ := TI_end h (by omega) (by omega) hp Sq_rf hn
  have k13' := m1.1.2.1
  refine ⟨K, ρ, _, u6, u7, ?_, e1, e2, e3⟩
  simp only [oO] at s1
  rw [b_378_1400]
  simp only [kd_mk, k12, gd_true, s1, bd_ret, vl_some, b_378_1402, k13', s3, b_378_1404, if_true, cm7]
theorem turn_41 (h : TI L xs I τ B C) (hB : B + 1400 ≤ 900000) (hi : i + 5 ≤ L) (hL : L ≤ 2560) : TT d L i 1407 xs I τ B := by
  intro u6 u7
  have k1 := h.2.2.2.2.2.1
  have x0 := h.2.2.2.2.2.2
  have k12 := h.1.1.2.1
  have k13 := h.2.1.1.2.1
  obtain ⟨J, ρ, s1, hp⟩ := p_byAccounts (d := d + 1) h.1
  obtain ⟨m1, m2, m3, m4, m5, m6, m7⟩ := TI_mid h hp Sq_rf
  obtain ⟨K, s3, hn⟩ := n_byAccounts (d := d + 1) m1
  obtain ⟨e1, e2, e3⟩ := TI_end h (by omega) (by omega) hp Sq_rf hn
  have k13' := m1.1.2.1
  refine ⟨K, ρ, _, u6, u7, ?_, e1, e2, e3⟩
  simp only [oO] at s1
  rw [b_378_1407]
  simp only [kd_mk, k12, gd_true, s1, bd_ret, vl_some, b_378_1409, k13', s3, b_378_1411, if_true, cm7]
theorem turn_42 (h : TI L xs I τ B C) (hB : B + 1400 ≤ 900000) (hi : i + 5 ≤ L) (hL : L ≤ 2560) : TT d L i 1414 xs I τ B := by
  intro u6 u7
  have k1 := h.2.2.2.2.2.1
  have x0 := h.2.2.2.2.2.2
  have k12 := h.1.1.2.1
  have k13 := h.2.1.1.2.1
  obtain ⟨J, ρ, s1, hp⟩ := p_treasury (d := d + 1) h.1
  obtain ⟨m1, m2, m3, m4, m5, m6, m7⟩ := TI_mid h hp Sq_rf
  obtain ⟨K, s3, hn⟩ := n_treasury (d := d + 1) m1
  obtain ⟨e1, e2, e3⟩ := TI_end h (by omega) (by omega) hp Sq_rf hn
  have k13' := m1.1.2.1
  refine ⟨K, ρ, _, u6, u7, ?_, e1, e2, e3⟩
  simp only [oO] at s1
  rw [b_378_1414]
  simp only [kd_mk, k12, gd_true, s1, bd_ret, vl_some, b_378_1416, k13', s3, b_378_1418, if_true, cm7]
theorem turn_43 (h : TI L xs I τ B C) (hB : B + 1400 ≤ 900000) (hi : i + 5 ≤ L) (hL : L ≤ 2560) : TT d L i 1421 xs I τ B := by
  intro u6 u7
  have k1 := h.2.2.2.2.2.1
  have x0 := h.2.2.2.2.2.2
  have k12 := h.1.1.2.1
  have k13 := h.2.1.1.2.1
  obtain ⟨J, ρ, s1, hp⟩ := p_night (d := d + 1) h.1
  obtain ⟨m1, m2, m3, m4, m5, m6, m7⟩ := TI_mid h hp Sq_rf
  obtain ⟨K, s3, hn⟩ := n_night (d := d + 1) m1
  obtain ⟨e1, e2, e3⟩ := TI_end h (by omega) (by omega) hp Sq_rf hn
  have k13' := m1.1.2.1
  refine ⟨K, ρ, _, u6, u7, ?_, e1, e2, e3⟩
  simp only [oO] at s1
  rw [b_378_1421]
  simp only [kd_mk, k12, gd_true, s1, bd_ret, vl_some, b_378_1423, k13', s3, b_378_1425, if_true, cm7]
theorem turn_44 (h : TI L xs I τ B C) (hB : B + 1400 ≤ 900000) (hi : i + 5 ≤ L) (hL : L ≤ 2560) : TT d L i 1428 xs I τ B := by
  intro u6 u7
  have k1 := h.2.2.2.2.2.1
  have x0 := h.2.2.2.2.2.2
  have k12 := h.1.1.2.1
  have k13 := h.2.1.1.2.1
  obtain ⟨J, ρ, s1, hp⟩ := p_upheld (d := d + 1) h.1
  obtain ⟨m1, m2, m3, m4, m5, m6, m7⟩ := TI_mid h hp Sq_rf
  obtain ⟨K, s3, hn⟩ := n_upheld (d := d + 1) m1
  obtain ⟨e1, e2, e3⟩ := TI_end h (by omega) (by omega) hp Sq_rf hn
  have k13' := m1.1.2.1
  refine ⟨K, ρ, _, u6, u7, ?_, e1, e2, e3⟩
  simp only [oO] at s1
  rw [b_378_1428]
  simp only [kd_mk, k12, gd_true, s1, bd_ret, vl_some, b_378_1430, k13', s3, b_378_1432, if_true, cm7]
theorem turn_45 (h : TI L xs I τ B C) (hB : B + 1400 ≤ 900000) (hi : i + 5 ≤ L) (hL : L ≤ 2560) : TT d L i 1435 xs I τ B := by
  intro u6 u7
  have k1 := h.2.2.2.2.2.1
  have x0 := h.2.2.2.2.2.2
  have k12 := h.1.1.2.1
  have k13 := h.2.1.1.2.1
  obtain ⟨J, ρ, s1, hp⟩ := p_dismissed (d := d + 1) h.1
  obtain ⟨m1, m2, m3, m4, m5, m6, m7⟩ := TI_mid h hp Sq_rf
  obtain ⟨K, s3, hn⟩ := n_dismissed (d := d + 1) m1
  obtain ⟨e1, e2, e3⟩ := TI_end h (by omega) (by omega) hp Sq_rf hn
  have k13' := m1.1.2.1
  refine ⟨K, ρ, _, u6, u7, ?_, e1, e2, e3⟩
  simp only [oO] at s1
  rw [b_378_1435]
  simp only [kd_mk, k12, gd_true, s1, bd_ret, vl_some, b_378_1437, k13', s3, b_378_1439, if_true, cm7]
theorem turn_46 (h : TI L xs I τ B C) (hB : B + 1400 ≤ 900000) (hi : i + 5 ≤ L) (hL : L ≤ 2560) : TT d L i 1442 xs I τ B := by
  intro u6 u7
  have k1 := h.2.2.2.2.2.1
  have x0 := h.2.2.2.2.2.2
  have k12 := h.1.1.2.1
  have k13 := h.2.1.1.2.1
  obtain ⟨J, ρ, s1, hp⟩ := p_lapsed (d := d + 1) h.1
  obtain ⟨m1, m2, m3, m4, m5, m6, m7⟩ := TI_mid h hp Sq_rf
  obtain ⟨K, s3, hn⟩ := n_lapsed (d := d + 1) m1
  obtain ⟨e1, e2, e3⟩ := TI_end h (by omega) (by omega) hp Sq_rf hn
  have k13' := m1.1.2.1
  refine ⟨K, ρ, _, u6, u7, ?_, e1, e2, e3⟩
  simp only [oO] at s1
  rw [b_378_1442]
  simp only [kd_mk, k12, gd_true, s1, bd_ret, vl_some, b_378_1444, k13', s3, b_378_1446, if_true, cm7]
theorem turn_49 (h : TI L xs I τ B C) (hB : B + 1400 ≤ 900000) (hi : i + 5 ≤ L) (hL : L ≤ 2560) : TT d L i 1522 xs I τ B := by
  intro u6 u7
  have k1 := h.2.2.2.2.2.1
  have x0 := h.2.2.2.2.2.2
  have k12 := h.1.1.2.1
  have k13 := h.2.1.1.2.1
  obtain ⟨J, ρ, s1, hp⟩ := p_isConsistent (d := d + 1) h.1
  obtain ⟨m1, m2, m3, m4, m5, m6, m7⟩ := TI_mid h hp Sq_rf
  obtain ⟨K, s3, hn⟩ := n_isConsistent (d := d + 1) m1
  obtain ⟨e1, e2, e3⟩ := TI_end h (by omega) (by omega) hp Sq_rf hn
  have k13' := m1.1.2.1
  refine ⟨K, ρ, _, u6, u7, ?_, e1, e2, e3⟩
  simp only [oO] at s1
  rw [b_378_1522]
  simp only [kd_mk, k12, gd_true, s1, bd_ret, vl_some, b_378_1524, k13', s3, b_378_1526, if_true, cm7]
theorem turn_50 (h : TI L xs I τ B C) (hB : B + 1400 ≤ 900000) (hi : i + 5 ≤ L) (hL : L ≤ 2560) : TT d L i 1529 xs I τ B := by
  intro u6 u7
  have k1 := h.2.2.2.2.2.1
  have x0 := h.2.2.2.2.2.2
  have k12 := h.1.1.2.1
  have k13 := h.2.1.1.2.1
  have x1 := x0 (i + 1) (by omega)
  obtain ⟨J, ρ, s1, hp⟩ := p_renderStatue (d := d) h.1 h.2.2.1 (xs (i + 1))
  have hqi : qin [0] (q_rS C (xs (i + 1))) := qi_rS
  obtain ⟨m1, m2, m3, m4, m5, m6, m7⟩ := TI_mid h hp (Sq_lw (o := 318) (q := (q_rS C (xs (i + 1)))))
  obtain ⟨K, s3, hn⟩ := n_renderStatue (d := d + 1) m1 (xs (i + 1))
  obtain ⟨e1, e2, e3⟩ := TI_end h (by omega) (by omega) hp (Sq_lw (o := 318) (q := (q_rS C (xs (i + 1))))) hn
  have y1 : J 1 (i + 1) = xs (i + 1) := by rw [m7]; exact x1
  have h7 := hn.2.1
  have kr : tK ρ 318 = (105, 1) := by rw [← Sq_K (Sq_lw (o := 318) (q := (q_rS C (xs (i + 1)))))]; exact m4
  generalize (q_rS C (xs (i + 1))) = Q at *
  have s2 := w_368 (d := d + 40) (o := 318) (xs (i + 1)) s1 hqi k12 kr (by omega)
  have k13' := m1.1.2.1
  have v1 : vp_in (iN (i + 1)) L = True := vp_iN (by omega) (by omega)
  have w1 : (iN (i + 1)).toNatClampNeg = i + 1 := iN_n (by omega)
  cases Q with
  | inl v =>
    have s2 : CC (d + 41) 368 [.ref 70, .int ((xs (i + 1))), .ref 318] (I, τ) = some (.inl (some (.int (iN 0))), (J, uL9 ρ 318 0 v.toInt64)) := s2
    have s3 : CC (d + 41) 306 [.ref 308, .int ((xs (i + 1)))] (J, uL9 ρ 318 0 v.toInt64) = some (.inl (some (.int v)), (K, uL9 ρ 318 0 v.toInt64)) := s3
    have s4 := t_208 (d := d + 41) (n := 0) m1.1 h7
    have s4 : CC (d + 41) 208 [.ref 308] (K, uL9 ρ 318 0 v.toInt64) = some (.inl (some (.int (iN 0))), (K, uL9 ρ 318 0 v.toInt64)) := s4
    have k13' : tK (uL9 ρ 318 0 v.toInt64) 308 = (13, 0) := k13'
    have m6 : tK (uL9 ρ 318 0 v.toInt64) 1 = (100, L) := m6
    have m4 : tK (uL9 ρ 318 0 v.toInt64) 318 = (105, 1) := m4
    have z0 : vp_in (iN 0) 1 = True := vp_iN (by omega) (by omega)
    have z1 : (iN 0).toNatClampNeg = 0 := iN_n (by omega)
    refine ⟨K, uL9 ρ 318 0 v.toInt64, _, some (.int (iN 0)), some (.int v), ?_, e1, e2, e3⟩
    rw [b_378_1529]
    simp only [kd_mk, k1, gd_true, true_and, and_true, and_self, iN_add, v1, w1, rd_I_mk, bd_ret, vl_some, x1, s2, b_378_1537, m6, y1, k13', s3, b_378_1545, s4, b_378_1548, cm7, if_true, m4, z0, z1, uL9_at, lgc, b_378_1563]
  | inr x =>
    have hx : x ∈ [0] := hqi
    have hix : [0].idxOf x ≤ 1 := List.idxOf_le_length
    have nz : (iN ([0].idxOf x + 1) = iN 0) = False := (iN_eq (by omega) (by omega)).trans (eq_false (by omega))
    have s2 : CC (d + 41) 368 [.ref 70, .int ((xs (i + 1))), .ref 318] (I, τ) = some (.inl (some (.int (iN ([0].idxOf x + 1)))), (J, ρ)) := s2
    have s3 : CC (d + 41) 306 [.ref 308, .int ((xs (i + 1)))] (J, ρ) = some (.inl (some (.int (iN 0))), (K, ρ)) := s3
    have s4 : CC (d + 41) 208 [.ref 308] (K, ρ) = some (.inl (some (.int (iN ([0].idxOf x + 1)))), (K, ρ)) := t_208 (d := d + 41) (n := [0].idxOf x + 1) m1.1 h7
    have k13' : tK ρ 308 = (13, 0) := k13'
    have m6 : tK ρ 1 = (100, L) := m6
    refine ⟨K, ρ, _, some (.int (iN ([0].idxOf x + 1))), some (.int (iN 0)), ?_, e1, e2, e3⟩
    generalize hk : iN ([0].idxOf x + 1) = kk at *
    rw [b_378_1529]
    simp only [kd_mk, k1, gd_true, true_and, and_true, and_self, iN_add, v1, w1, rd_I_mk, bd_ret, vl_some, x1, s2, b_378_1537, m6, y1, k13', s3, b_378_1545, s4, b_378_1548, cm7, if_true, nz, if_false, b_378_1563]
theorem turn_51 (h : TI L xs I τ B C) (hB : B + 1400 ≤ 900000) (hi : i + 5 ≤ L) (hL : L ≤ 2560) : TT d L i 1564 xs I τ B := by
  intro u6 u7
  have k1 := h.2.2.2.2.2.1
  have x0 := h.2.2.2.2.2.2
  have k12 := h.1.1.2.1
  have k13 := h.2.1.1.2.1
  have x1 := x0 (i + 1) (by omega)
  obtain ⟨J, ρ, s1, hp⟩ := p_renderWrit (d := d) h.1 h.2.2.1 (xs (i + 1))
  have hqi : qin [3] (q_rW C (xs (i + 1))) := qi_rW
  obtain ⟨m1, m2, m3, m4, m5, m6, m7⟩ := TI_mid h hp (Sq_lw (o := 318) (q := (q_rW C (xs (i + 1)))))
  obtain ⟨K, s3, hn⟩ := n_renderWrit (d := d + 1) m1 (xs (i + 1))
  obtain ⟨e1, e2, e3⟩ := TI_end h (by omega) (by omega) hp (Sq_lw (o := 318) (q := (q_rW C (xs (i + 1))))) hn
  have y1 : J 1 (i + 1) = xs (i + 1) := by rw [m7]; exact x1
  have h7 := hn.2.1
  have kr : tK ρ 318 = (105, 1) := by rw [← Sq_K (Sq_lw (o := 318) (q := (q_rW C (xs (i + 1)))))]; exact m4
  generalize (q_rW C (xs (i + 1))) = Q at *
  have s2 := w_369 (d := d + 40) (o := 318) (xs (i + 1)) s1 hqi k12 kr (by omega)
  have k13' := m1.1.2.1
  have v1 : vp_in (iN (i + 1)) L = True := vp_iN (by omega) (by omega)
  have w1 : (iN (i + 1)).toNatClampNeg = i + 1 := iN_n (by omega)
  cases Q with
  | inl v =>
    have s2 : CC (d + 41) 369 [.ref 70, .int ((xs (i + 1))), .ref 318] (I, τ) = some (.inl (some (.int (iN 0))), (J, uL9 ρ 318 0 v.toInt64)) := s2
    have s3 : CC (d + 41) 307 [.ref 308, .int ((xs (i + 1)))] (J, uL9 ρ 318 0 v.toInt64) = some (.inl (some (.int v)), (K, uL9 ρ 318 0 v.toInt64)) := s3
    have s4 := t_208 (d := d + 41) (n := 0) m1.1 h7
    have s4 : CC (d + 41) 208 [.ref 308] (K, uL9 ρ 318 0 v.toInt64) = some (.inl (some (.int (iN 0))), (K, uL9 ρ 318 0 v.toInt64)) := s4
    have k13' : tK (uL9 ρ 318 0 v.toInt64) 308 = (13, 0) := k13'
    have m6 : tK (uL9 ρ 318 0 v.toInt64) 1 = (100, L) := m6
    have m4 : tK (uL9 ρ 318 0 v.toInt64) 318 = (105, 1) := m4
    have z0 : vp_in (iN 0) 1 = True := vp_iN (by omega) (by omega)
    have z1 : (iN 0).toNatClampNeg = 0 := iN_n (by omega)
    refine ⟨K, uL9 ρ 318 0 v.toInt64, _, some (.int (iN 0)), some (.int v), ?_, e1, e2, e3⟩
    rw [b_378_1564]
    simp only [kd_mk, k1, gd_true, true_and, and_true, and_self, iN_add, v1, w1, rd_I_mk, bd_ret, vl_some, x1, s2, b_378_1572, m6, y1, k13', s3, b_378_1580, s4, b_378_1583, cm7, if_true, m4, z0, z1, uL9_at, lgc, b_378_1598]
  | inr x =>
    have hx : x ∈ [3] := hqi
    have hix : [3].idxOf x ≤ 1 := List.idxOf_le_length
    have nz : (iN ([3].idxOf x + 1) = iN 0) = False := (iN_eq (by omega) (by omega)).trans (eq_false (by omega))
    have s2 : CC (d + 41) 369 [.ref 70, .int ((xs (i + 1))), .ref 318] (I, τ) = some (.inl (some (.int (iN ([3].idxOf x + 1)))), (J, ρ)) := s2
    have s3 : CC (d + 41) 307 [.ref 308, .int ((xs (i + 1)))] (J, ρ) = some (.inl (some (.int (iN 0))), (K, ρ)) := s3
    have s4 : CC (d + 41) 208 [.ref 308] (K, ρ) = some (.inl (some (.int (iN ([3].idxOf x + 1)))), (K, ρ)) := t_208 (d := d + 41) (n := [3].idxOf x + 1) m1.1 h7
    have k13' : tK ρ 308 = (13, 0) := k13'
    have m6 : tK ρ 1 = (100, L) := m6
    refine ⟨K, ρ, _, some (.int (iN ([3].idxOf x + 1))), some (.int (iN 0)), ?_, e1, e2, e3⟩
    generalize hk : iN ([3].idxOf x + 1) = kk at *
    rw [b_378_1564]
    simp only [kd_mk, k1, gd_true, true_and, and_true, and_self, iN_add, v1, w1, rd_I_mk, bd_ret, vl_some, x1, s2, b_378_1572, m6, y1, k13', s3, b_378_1580, s4, b_378_1583, cm7, if_true, nz, if_false, b_378_1598]
theorem turn_52 (h : TI L xs I τ B C) (hB : B + 1400 ≤ 900000) (hi : i + 5 ≤ L) (hL : L ≤ 2560) : TT d L i 1599 xs I τ B := by
  intro u6 u7
  have k1 := h.2.2.2.2.2.1
  have x0 := h.2.2.2.2.2.2
  have k12 := h.1.1.2.1
  have k13 := h.2.1.1.2.1
  have x1 := x0 (i + 1) (by omega)
  obtain ⟨J, ρ, s1, hp⟩ := p_outputAt (d := d) h.1 (xs (i + 1))
  have hqi : qin [0] (q_outAt C (xs (i + 1))) := qi_outAt
  obtain ⟨m1, m2, m3, m4, m5, m6, m7⟩ := TI_mid h hp (Sq_lw (o := 318) (q := (q_outAt C (xs (i + 1)))))
  obtain ⟨K, s3, hn⟩ := n_outputAt (d := d + 1) m1 (xs (i + 1))
  obtain ⟨e1, e2, e3⟩ := TI_end h (by omega) (by omega) hp (Sq_lw (o := 318) (q := (q_outAt C (xs (i + 1))))) hn
  have y1 : J 1 (i + 1) = xs (i + 1) := by rw [m7]; exact x1
  have h7 := hn.2.1
  have kr : tK ρ 318 = (105, 1) := by rw [← Sq_K (Sq_lw (o := 318) (q := (q_outAt C (xs (i + 1)))))]; exact m4
  generalize (q_outAt C (xs (i + 1))) = Q at *
  have s2 := w_370 (d := d + 40) (o := 318) (xs (i + 1)) s1 hqi k12 kr (by omega)
  have k13' := m1.1.2.1
  have v1 : vp_in (iN (i + 1)) L = True := vp_iN (by omega) (by omega)
  have w1 : (iN (i + 1)).toNatClampNeg = i + 1 := iN_n (by omega)
  cases Q with
  | inl v =>
    have s2 : CC (d + 41) 370 [.ref 70, .int ((xs (i + 1))), .ref 318] (I, τ) = some (.inl (some (.int (iN 0))), (J, uL9 ρ 318 0 v.toInt64)) := s2
    have s3 : CC (d + 41) 308 [.ref 308, .int ((xs (i + 1)))] (J, uL9 ρ 318 0 v.toInt64) = some (.inl (some (.int v)), (K, uL9 ρ 318 0 v.toInt64)) := s3
    have s4 := t_208 (d := d + 41) (n := 0) m1.1 h7
    have s4 : CC (d + 41) 208 [.ref 308] (K, uL9 ρ 318 0 v.toInt64) = some (.inl (some (.int (iN 0))), (K, uL9 ρ 318 0 v.toInt64)) := s4
    have k13' : tK (uL9 ρ 318 0 v.toInt64) 308 = (13, 0) := k13'
    have m6 : tK (uL9 ρ 318 0 v.toInt64) 1 = (100, L) := m6
    have m4 : tK (uL9 ρ 318 0 v.toInt64) 318 = (105, 1) := m4
    have z0 : vp_in (iN 0) 1 = True := vp_iN (by omega) (by omega)
    have z1 : (iN 0).toNatClampNeg = 0 := iN_n (by omega)
    refine ⟨K, uL9 ρ 318 0 v.toInt64, _, some (.int (iN 0)), some (.int v), ?_, e1, e2, e3⟩
    rw [b_378_1599]
    simp only [kd_mk, k1, gd_true, true_and, and_true, and_self, iN_add, v1, w1, rd_I_mk, bd_ret, vl_some, x1, s2, b_378_1607, m6, y1, k13', s3, b_378_1615, s4, b_378_1618, cm7, if_true, m4, z0, z1, uL9_at, lgc, b_378_1633]
  | inr x =>
    have hx : x ∈ [0] := hqi
    have hix : [0].idxOf x ≤ 1 := List.idxOf_le_length
    have nz : (iN ([0].idxOf x + 1) = iN 0) = False := (iN_eq (by omega) (by omega)).trans (eq_false (by omega))
    have s2 : CC (d + 41) 370 [.ref 70, .int ((xs (i + 1))), .ref 318] (I, τ) = some (.inl (some (.int (iN ([0].idxOf x + 1)))), (J, ρ)) := s2
    have s3 : CC (d + 41) 308 [.ref 308, .int ((xs (i + 1)))] (J, ρ) = some (.inl (some (.int (iN 0))), (K, ρ)) := s3
    have s4 : CC (d + 41) 208 [.ref 308] (K, ρ) = some (.inl (some (.int (iN ([0].idxOf x + 1)))), (K, ρ)) := t_208 (d := d + 41) (n := [0].idxOf x + 1) m1.1 h7
    have k13' : tK ρ 308 = (13, 0) := k13'
    have m6 : tK ρ 1 = (100, L) := m6
    refine ⟨K, ρ, _, some (.int (iN ([0].idxOf x + 1))), some (.int (iN 0)), ?_, e1, e2, e3⟩
    generalize hk : iN ([0].idxOf x + 1) = kk at *
    rw [b_378_1599]
    simp only [kd_mk, k1, gd_true, true_and, and_true, and_self, iN_add, v1, w1, rd_I_mk, bd_ret, vl_some, x1, s2, b_378_1607, m6, y1, k13', s3, b_378_1615, s4, b_378_1618, cm7, if_true, nz, if_false, b_378_1633]
theorem turn_53 (h : TI L xs I τ B C) (hB : B + 1400 ≤ 900000) (hi : i + 5 ≤ L) (hL : L ≤ 2560) : TT d L i 1634 xs I τ B := by
  intro u6 u7
  have k1 := h.2.2.2.2.2.1
  have x0 := h.2.2.2.2.2.2
  have k12 := h.1.1.2.1
  have k13 := h.2.1.1.2.1
  have x1 := x0 (i + 1) (by omega)
  obtain ⟨J, ρ, s1, hp⟩ := p_type (d := d) h.1 (((xs (i + 1)).toUInt32 % 65536).toInt32)
  have hqi : qin [1, 2] (q_type C (((xs (i + 1)).toUInt32 % 65536).toInt32)) := qi_type
  obtain ⟨m1, m2, m3, m4, m5, m6, m7⟩ := TI_mid h hp (Sq_lw (o := 318) (q := (q_type C (((xs (i + 1)).toUInt32 % 65536).toInt32))))
  obtain ⟨K, s3, hn⟩ := n_type (d := d + 1) m1 (((xs (i + 1)).toUInt32 % 65536).toInt32)
  obtain ⟨e1, e2, e3⟩ := TI_end h (by omega) (by omega) hp (Sq_lw (o := 318) (q := (q_type C (((xs (i + 1)).toUInt32 % 65536).toInt32)))) hn
  have y1 : J 1 (i + 1) = xs (i + 1) := by rw [m7]; exact x1
  have h7 := hn.2.1
  have kr : tK ρ 318 = (105, 1) := by rw [← Sq_K (Sq_lw (o := 318) (q := (q_type C (((xs (i + 1)).toUInt32 % 65536).toInt32))))]; exact m4
  generalize (q_type C (((xs (i + 1)).toUInt32 % 65536).toInt32)) = Q at *
  have s2 := w_371 (d := d + 40) (o := 318) (((xs (i + 1)).toUInt32 % 65536).toInt32) s1 hqi k12 kr (by omega)
  have k13' := m1.1.2.1
  have v1 : vp_in (iN (i + 1)) L = True := vp_iN (by omega) (by omega)
  have w1 : (iN (i + 1)).toNatClampNeg = i + 1 := iN_n (by omega)
  cases Q with
  | inl v =>
    have s2 : CC (d + 41) 371 [.ref 70, .int (((xs (i + 1)).toUInt32 % 65536).toInt32), .ref 318] (I, τ) = some (.inl (some (.int (iN 0))), (J, uL9 ρ 318 0 v.toInt64)) := s2
    have s3 : CC (d + 41) 309 [.ref 308, .int (((xs (i + 1)).toUInt32 % 65536).toInt32)] (J, uL9 ρ 318 0 v.toInt64) = some (.inl (some (.int v)), (K, uL9 ρ 318 0 v.toInt64)) := s3
    have s4 := t_208 (d := d + 41) (n := 0) m1.1 h7
    have s4 : CC (d + 41) 208 [.ref 308] (K, uL9 ρ 318 0 v.toInt64) = some (.inl (some (.int (iN 0))), (K, uL9 ρ 318 0 v.toInt64)) := s4
    have k13' : tK (uL9 ρ 318 0 v.toInt64) 308 = (13, 0) := k13'
    have m6 : tK (uL9 ρ 318 0 v.toInt64) 1 = (100, L) := m6
    have m4 : tK (uL9 ρ 318 0 v.toInt64) 318 = (105, 1) := m4
    have z0 : vp_in (iN 0) 1 = True := vp_iN (by omega) (by omega)
    have z1 : (iN 0).toNatClampNeg = 0 := iN_n (by omega)
    refine ⟨K, uL9 ρ 318 0 v.toInt64, _, some (.int (iN 0)), some (.int v), ?_, e1, e2, e3⟩
    rw [b_378_1634]
    simp only [kd_mk, k1, gd_true, true_and, and_true, and_self, iN_add, v1, w1, rd_I_mk, bd_ret, vl_some, x1, s2, b_378_1643, m6, y1, k13', s3, b_378_1652, s4, b_378_1655, cm7, if_true, m4, z0, z1, uL9_at, lgc, b_378_1670]
  | inr x =>
    have hx : x ∈ [1, 2] := hqi
    have hix : [1, 2].idxOf x ≤ 2 := List.idxOf_le_length
    have nz : (iN ([1, 2].idxOf x + 1) = iN 0) = False := (iN_eq (by omega) (by omega)).trans (eq_false (by omega))
    have s2 : CC (d + 41) 371 [.ref 70, .int (((xs (i + 1)).toUInt32 % 65536).toInt32), .ref 318] (I, τ) = some (.inl (some (.int (iN ([1, 2].idxOf x + 1)))), (J, ρ)) := s2
    have s3 : CC (d + 41) 309 [.ref 308, .int (((xs (i + 1)).toUInt32 % 65536).toInt32)] (J, ρ) = some (.inl (some (.int (iN 0))), (K, ρ)) := s3
    have s4 : CC (d + 41) 208 [.ref 308] (K, ρ) = some (.inl (some (.int (iN ([1, 2].idxOf x + 1)))), (K, ρ)) := t_208 (d := d + 41) (n := [1, 2].idxOf x + 1) m1.1 h7
    have k13' : tK ρ 308 = (13, 0) := k13'
    have m6 : tK ρ 1 = (100, L) := m6
    refine ⟨K, ρ, _, some (.int (iN ([1, 2].idxOf x + 1))), some (.int (iN 0)), ?_, e1, e2, e3⟩
    generalize hk : iN ([1, 2].idxOf x + 1) = kk at *
    rw [b_378_1634]
    simp only [kd_mk, k1, gd_true, true_and, and_true, and_self, iN_add, v1, w1, rd_I_mk, bd_ret, vl_some, x1, s2, b_378_1643, m6, y1, k13', s3, b_378_1652, s4, b_378_1655, cm7, if_true, nz, if_false, b_378_1670]
theorem turn_54 (h : TI L xs I τ B C) (hB : B + 1400 ≤ 900000) (hi : i + 5 ≤ L) (hL : L ≤ 2560) : TT d L i 1671 xs I τ B := by
  intro u6 u7
  have k1 := h.2.2.2.2.2.1
  have x0 := h.2.2.2.2.2.2
  have k12 := h.1.1.2.1
  have k13 := h.2.1.1.2.1
  obtain ⟨J, ρ, s1, hp⟩ := p_runScript (d := d) h.1 h.2.2.1 hB
  have hqi : qin [1, 2] (q_run C) := qi_run
  obtain ⟨m1, m2, m3, m4, m5, m6, m7⟩ := TI_mid h hp (Sq_lw (o := 318) (q := (q_run C)))
  obtain ⟨K, s3, hn⟩ := n_runScript (d := d + 1) m1 m3.2.1 hB
  obtain ⟨e1, e2, e3⟩ := TI_end h (by omega) (by omega) hp (Sq_lw (o := 318) (q := (q_run C))) hn
  have h7 := hn.2.1
  have kr : tK ρ 318 = (105, 1) := by rw [← Sq_K (Sq_lw (o := 318) (q := (q_run C)))]; exact m4
  generalize (q_run C) = Q at *
  have s2 := w_372 (d := d + 40) (o := 318) s1 hqi k12 kr (by omega)
  have k13' := m1.1.2.1
  cases Q with
  | inl v =>
    have s2 : CC (d + 41) 372 [.ref 70, .ref 318] (I, τ) = some (.inl (some (.int (iN 0))), (J, uL9 ρ 318 0 v.toInt64)) := s2
    have s3 : CC (d + 41) 324 [.ref 308] (J, uL9 ρ 318 0 v.toInt64) = some (.inl (some (.int v)), (K, uL9 ρ 318 0 v.toInt64)) := s3
    have s4 := t_208 (d := d + 41) (n := 0) m1.1 h7
    have s4 : CC (d + 41) 208 [.ref 308] (K, uL9 ρ 318 0 v.toInt64) = some (.inl (some (.int (iN 0))), (K, uL9 ρ 318 0 v.toInt64)) := s4
    have k13' : tK (uL9 ρ 318 0 v.toInt64) 308 = (13, 0) := k13'
    have m6 : tK (uL9 ρ 318 0 v.toInt64) 1 = (100, L) := m6
    have m4 : tK (uL9 ρ 318 0 v.toInt64) 318 = (105, 1) := m4
    have z0 : vp_in (iN 0) 1 = True := vp_iN (by omega) (by omega)
    have z1 : (iN 0).toNatClampNeg = 0 := iN_n (by omega)
    refine ⟨K, uL9 ρ 318 0 v.toInt64, _, some (.int (iN 0)), some (.int v), ?_, e1, e2, e3⟩
    rw [b_378_1671]
    simp only [kd_mk, k1, gd_true, true_and, and_true, and_self, iN_add, rd_I_mk, bd_ret, vl_some, s2, b_378_1674, m6, k13', s3, b_378_1677, s4, b_378_1680, cm7, if_true, m4, z0, z1, uL9_at, lgc, b_378_1695]
  | inr x =>
    have hx : x ∈ [1, 2] := hqi
    have hix : [1, 2].idxOf x ≤ 2 := List.idxOf_le_length
    have nz : (iN ([1, 2].idxOf x + 1) = iN 0) = False := (iN_eq (by omega) (by omega)).trans (eq_false (by omega))
    have s2 : CC (d + 41) 372 [.ref 70, .ref 318] (I, τ) = some (.inl (some (.int (iN ([1, 2].idxOf x + 1)))), (J, ρ)) := s2
    have s3 : CC (d + 41) 324 [.ref 308] (J, ρ) = some (.inl (some (.int (iN 0))), (K, ρ)) := s3
    have s4 : CC (d + 41) 208 [.ref 308] (K, ρ) = some (.inl (some (.int (iN ([1, 2].idxOf x + 1)))), (K, ρ)) := t_208 (d := d + 41) (n := [1, 2].idxOf x + 1) m1.1 h7
    have k13' : tK ρ 308 = (13, 0) := k13'
    have m6 : tK ρ 1 = (100, L) := m6
    refine ⟨K, ρ, _, some (.int (iN ([1, 2].idxOf x + 1))), some (.int (iN 0)), ?_, e1, e2, e3⟩
    generalize hk : iN ([1, 2].idxOf x + 1) = kk at *
    rw [b_378_1671]
    simp only [kd_mk, k1, gd_true, true_and, and_true, and_self, iN_add, rd_I_mk, bd_ret, vl_some, s2, b_378_1674, m6, k13', s3, b_378_1677, s4, b_378_1680, cm7, if_true, nz, if_false, b_378_1695]
theorem turn_55 (h : TI L xs I τ B C) (hB : B + 1400 ≤ 900000) (hi : i + 5 ≤ L) (hL : L ≤ 2560) : TT d L i 1696 xs I τ B := by
  intro u6 u7
  have k1 := h.2.2.2.2.2.1
  have x0 := h.2.2.2.2.2.2
  have k12 := h.1.1.2.1
  have k13 := h.2.1.1.2.1
  obtain ⟨J, ρ, s1, hp⟩ := p_errorPosition (d := d) h.1
  have hqi : qin [3] (q_opt (g_E C)) := qi_opt
  obtain ⟨m1, m2, m3, m4, m5, m6, m7⟩ := TI_mid h hp (Sq_lw (o := 318) (q := (q_opt (g_E C))))
  obtain ⟨K, s3, hn⟩ := n_errorPosition (d := d + 1) m1
  obtain ⟨e1, e2, e3⟩ := TI_end h (by omega) (by omega) hp (Sq_lw (o := 318) (q := (q_opt (g_E C)))) hn
  have h7 := hn.2.1
  have kr : tK ρ 318 = (105, 1) := by rw [← Sq_K (Sq_lw (o := 318) (q := (q_opt (g_E C))))]; exact m4
  generalize (q_opt (g_E C)) = Q at *
  have s2 := w_373 (d := d + 40) (o := 318) s1 hqi k12 kr (by omega)
  have k13' := m1.1.2.1
  cases Q with
  | inl v =>
    have s2 : CC (d + 41) 373 [.ref 70, .ref 318] (I, τ) = some (.inl (some (.int (iN 0))), (J, uL9 ρ 318 0 v.toInt64)) := s2
    have s3 : CC (d + 41) 325 [.ref 308] (J, uL9 ρ 318 0 v.toInt64) = some (.inl (some (.int v)), (K, uL9 ρ 318 0 v.toInt64)) := s3
    have s4 := t_208 (d := d + 41) (n := 0) m1.1 h7
    have s4 : CC (d + 41) 208 [.ref 308] (K, uL9 ρ 318 0 v.toInt64) = some (.inl (some (.int (iN 0))), (K, uL9 ρ 318 0 v.toInt64)) := s4
    have k13' : tK (uL9 ρ 318 0 v.toInt64) 308 = (13, 0) := k13'
    have m6 : tK (uL9 ρ 318 0 v.toInt64) 1 = (100, L) := m6
    have m4 : tK (uL9 ρ 318 0 v.toInt64) 318 = (105, 1) := m4
    have z0 : vp_in (iN 0) 1 = True := vp_iN (by omega) (by omega)
    have z1 : (iN 0).toNatClampNeg = 0 := iN_n (by omega)
    refine ⟨K, uL9 ρ 318 0 v.toInt64, _, some (.int (iN 0)), some (.int v), ?_, e1, e2, e3⟩
    rw [b_378_1696]
    simp only [kd_mk, k1, gd_true, true_and, and_true, and_self, iN_add, rd_I_mk, bd_ret, vl_some, s2, b_378_1699, m6, k13', s3, b_378_1702, s4, b_378_1705, cm7, if_true, m4, z0, z1, uL9_at, lgc, b_378_1720]
  | inr x =>
    have hx : x ∈ [3] := hqi
    have hix : [3].idxOf x ≤ 1 := List.idxOf_le_length
    have nz : (iN ([3].idxOf x + 1) = iN 0) = False := (iN_eq (by omega) (by omega)).trans (eq_false (by omega))
    have s2 : CC (d + 41) 373 [.ref 70, .ref 318] (I, τ) = some (.inl (some (.int (iN ([3].idxOf x + 1)))), (J, ρ)) := s2
    have s3 : CC (d + 41) 325 [.ref 308] (J, ρ) = some (.inl (some (.int (iN 0))), (K, ρ)) := s3
    have s4 : CC (d + 41) 208 [.ref 308] (K, ρ) = some (.inl (some (.int (iN ([3].idxOf x + 1)))), (K, ρ)) := t_208 (d := d + 41) (n := [3].idxOf x + 1) m1.1 h7
    have k13' : tK ρ 308 = (13, 0) := k13'
    have m6 : tK ρ 1 = (100, L) := m6
    refine ⟨K, ρ, _, some (.int (iN ([3].idxOf x + 1))), some (.int (iN 0)), ?_, e1, e2, e3⟩
    generalize hk : iN ([3].idxOf x + 1) = kk at *
    rw [b_378_1696]
    simp only [kd_mk, k1, gd_true, true_and, and_true, and_self, iN_add, rd_I_mk, bd_ret, vl_some, s2, b_378_1699, m6, k13', s3, b_378_1702, s4, b_378_1705, cm7, if_true, nz, if_false, b_378_1720]
theorem turn_56 (h : TI L xs I τ B C) (hB : B + 1400 ≤ 900000) (hi : i + 5 ≤ L) (hL : L ≤ 2560) : TT d L i 1721 xs I τ B := by
  intro u6 u7
  have k1 := h.2.2.2.2.2.1
  have x0 := h.2.2.2.2.2.2
  have k12 := h.1.1.2.1
  have k13 := h.2.1.1.2.1
  obtain ⟨J, ρ, s1, hp⟩ := p_failedCommand (d := d) h.1
  have hqi : qin [3] (q_opt (g_F C)) := qi_opt
  obtain ⟨m1, m2, m3, m4, m5, m6, m7⟩ := TI_mid h hp (Sq_lw (o := 318) (q := (q_opt (g_F C))))
  obtain ⟨K, s3, hn⟩ := n_failedCommand (d := d + 1) m1
  obtain ⟨e1, e2, e3⟩ := TI_end h (by omega) (by omega) hp (Sq_lw (o := 318) (q := (q_opt (g_F C)))) hn
  have h7 := hn.2.1
  have kr : tK ρ 318 = (105, 1) := by rw [← Sq_K (Sq_lw (o := 318) (q := (q_opt (g_F C))))]; exact m4
  generalize (q_opt (g_F C)) = Q at *
  have s2 := w_374 (d := d + 40) (o := 318) s1 hqi k12 kr (by omega)
  have k13' := m1.1.2.1
  cases Q with
  | inl v =>
    have s2 : CC (d + 41) 374 [.ref 70, .ref 318] (I, τ) = some (.inl (some (.int (iN 0))), (J, uL9 ρ 318 0 v.toInt64)) := s2
    have s3 : CC (d + 41) 326 [.ref 308] (J, uL9 ρ 318 0 v.toInt64) = some (.inl (some (.int v)), (K, uL9 ρ 318 0 v.toInt64)) := s3
    have s4 := t_208 (d := d + 41) (n := 0) m1.1 h7
    have s4 : CC (d + 41) 208 [.ref 308] (K, uL9 ρ 318 0 v.toInt64) = some (.inl (some (.int (iN 0))), (K, uL9 ρ 318 0 v.toInt64)) := s4
    have k13' : tK (uL9 ρ 318 0 v.toInt64) 308 = (13, 0) := k13'
    have m6 : tK (uL9 ρ 318 0 v.toInt64) 1 = (100, L) := m6
    have m4 : tK (uL9 ρ 318 0 v.toInt64) 318 = (105, 1) := m4
    have z0 : vp_in (iN 0) 1 = True := vp_iN (by omega) (by omega)
    have z1 : (iN 0).toNatClampNeg = 0 := iN_n (by omega)
    refine ⟨K, uL9 ρ 318 0 v.toInt64, _, some (.int (iN 0)), some (.int v), ?_, e1, e2, e3⟩
    rw [b_378_1721]
    simp only [kd_mk, k1, gd_true, true_and, and_true, and_self, iN_add, rd_I_mk, bd_ret, vl_some, s2, b_378_1724, m6, k13', s3, b_378_1727, s4, b_378_1730, cm7, if_true, m4, z0, z1, uL9_at, lgc, b_378_1745]
  | inr x =>
    have hx : x ∈ [3] := hqi
    have hix : [3].idxOf x ≤ 1 := List.idxOf_le_length
    have nz : (iN ([3].idxOf x + 1) = iN 0) = False := (iN_eq (by omega) (by omega)).trans (eq_false (by omega))
    have s2 : CC (d + 41) 374 [.ref 70, .ref 318] (I, τ) = some (.inl (some (.int (iN ([3].idxOf x + 1)))), (J, ρ)) := s2
    have s3 : CC (d + 41) 326 [.ref 308] (J, ρ) = some (.inl (some (.int (iN 0))), (K, ρ)) := s3
    have s4 : CC (d + 41) 208 [.ref 308] (K, ρ) = some (.inl (some (.int (iN ([3].idxOf x + 1)))), (K, ρ)) := t_208 (d := d + 41) (n := [3].idxOf x + 1) m1.1 h7
    have k13' : tK ρ 308 = (13, 0) := k13'
    have m6 : tK ρ 1 = (100, L) := m6
    refine ⟨K, ρ, _, some (.int (iN ([3].idxOf x + 1))), some (.int (iN 0)), ?_, e1, e2, e3⟩
    generalize hk : iN ([3].idxOf x + 1) = kk at *
    rw [b_378_1721]
    simp only [kd_mk, k1, gd_true, true_and, and_true, and_self, iN_add, rd_I_mk, bd_ret, vl_some, s2, b_378_1724, m6, k13', s3, b_378_1727, s4, b_378_1730, cm7, if_true, nz, if_false, b_378_1745]
theorem turn_57 (h : TI L xs I τ B C) (hB : B + 1400 ≤ 900000) (hi : i + 5 ≤ L) (hL : L ≤ 2560) : TT d L i 1746 xs I τ B := by
  intro u6 u7
  have k1 := h.2.2.2.2.2.1
  have x0 := h.2.2.2.2.2.2
  have k12 := h.1.1.2.1
  have k13 := h.2.1.1.2.1
  obtain ⟨J, ρ, s1, hp⟩ := p_failureKind (d := d) h.1
  have hqi : qin [3] (q_kind C) := qi_kind
  obtain ⟨m1, m2, m3, m4, m5, m6, m7⟩ := TI_mid h hp (Sq_lw (o := 318) (q := (q_kind C)))
  obtain ⟨K, s3, hn⟩ := n_failureKind (d := d + 1) m1
  obtain ⟨e1, e2, e3⟩ := TI_end h (by omega) (by omega) hp (Sq_lw (o := 318) (q := (q_kind C))) hn
  have h7 := hn.2.1
  have kr : tK ρ 318 = (105, 1) := by rw [← Sq_K (Sq_lw (o := 318) (q := (q_kind C)))]; exact m4
  generalize (q_kind C) = Q at *
  have s2 := w_375 (d := d + 40) (o := 318) s1 hqi k12 kr (by omega)
  have k13' := m1.1.2.1
  cases Q with
  | inl v =>
    have s2 : CC (d + 41) 375 [.ref 70, .ref 318] (I, τ) = some (.inl (some (.int (iN 0))), (J, uL9 ρ 318 0 v.toInt64)) := s2
    have s3 : CC (d + 41) 327 [.ref 308] (J, uL9 ρ 318 0 v.toInt64) = some (.inl (some (.int v)), (K, uL9 ρ 318 0 v.toInt64)) := s3
    have s4 := t_208 (d := d + 41) (n := 0) m1.1 h7
    have s4 : CC (d + 41) 208 [.ref 308] (K, uL9 ρ 318 0 v.toInt64) = some (.inl (some (.int (iN 0))), (K, uL9 ρ 318 0 v.toInt64)) := s4
    have k13' : tK (uL9 ρ 318 0 v.toInt64) 308 = (13, 0) := k13'
    have m6 : tK (uL9 ρ 318 0 v.toInt64) 1 = (100, L) := m6
    have m4 : tK (uL9 ρ 318 0 v.toInt64) 318 = (105, 1) := m4
    have z0 : vp_in (iN 0) 1 = True := vp_iN (by omega) (by omega)
    have z1 : (iN 0).toNatClampNeg = 0 := iN_n (by omega)
    refine ⟨K, uL9 ρ 318 0 v.toInt64, _, some (.int (iN 0)), some (.int v), ?_, e1, e2, e3⟩
    rw [b_378_1746]
    simp only [kd_mk, k1, gd_true, true_and, and_true, and_self, iN_add, rd_I_mk, bd_ret, vl_some, s2, b_378_1749, m6, k13', s3, b_378_1752, s4, b_378_1755, cm7, if_true, m4, z0, z1, uL9_at, lgc, b_378_1770]
  | inr x =>
    have hx : x ∈ [3] := hqi
    have hix : [3].idxOf x ≤ 1 := List.idxOf_le_length
    have nz : (iN ([3].idxOf x + 1) = iN 0) = False := (iN_eq (by omega) (by omega)).trans (eq_false (by omega))
    have s2 : CC (d + 41) 375 [.ref 70, .ref 318] (I, τ) = some (.inl (some (.int (iN ([3].idxOf x + 1)))), (J, ρ)) := s2
    have s3 : CC (d + 41) 327 [.ref 308] (J, ρ) = some (.inl (some (.int (iN 0))), (K, ρ)) := s3
    have s4 : CC (d + 41) 208 [.ref 308] (K, ρ) = some (.inl (some (.int (iN ([3].idxOf x + 1)))), (K, ρ)) := t_208 (d := d + 41) (n := [3].idxOf x + 1) m1.1 h7
    have k13' : tK ρ 308 = (13, 0) := k13'
    have m6 : tK ρ 1 = (100, L) := m6
    refine ⟨K, ρ, _, some (.int (iN ([3].idxOf x + 1))), some (.int (iN 0)), ?_, e1, e2, e3⟩
    generalize hk : iN ([3].idxOf x + 1) = kk at *
    rw [b_378_1746]
    simp only [kd_mk, k1, gd_true, true_and, and_true, and_self, iN_add, rd_I_mk, bd_ret, vl_some, s2, b_378_1749, m6, k13', s3, b_378_1752, s4, b_378_1755, cm7, if_true, nz, if_false, b_378_1770]
theorem turn_58 (h : TI L xs I τ B C) (hB : B + 1400 ≤ 900000) (hi : i + 5 ≤ L) (hL : L ≤ 2560) : TT d L i 1771 xs I τ B := by
  intro u6 u7
  have k1 := h.2.2.2.2.2.1
  have x0 := h.2.2.2.2.2.2
  have k12 := h.1.1.2.1
  have k13 := h.2.1.1.2.1
  obtain ⟨J, ρ, s1, hp⟩ := p_undo (d := d) h.1
  have hqi : qin [3] (q_undo C) := qi_undo
  obtain ⟨m1, m2, m3, m4, m5, m6, m7⟩ := TI_mid h hp (Sq_lw (o := 318) (q := (q_undo C)))
  obtain ⟨K, s3, hn⟩ := n_undo (d := d + 1) m1
  obtain ⟨e1, e2, e3⟩ := TI_end h (by omega) (by omega) hp (Sq_lw (o := 318) (q := (q_undo C))) hn
  have h7 := hn.2.1
  have kr : tK ρ 318 = (105, 1) := by rw [← Sq_K (Sq_lw (o := 318) (q := (q_undo C)))]; exact m4
  generalize (q_undo C) = Q at *
  have s2 := w_376 (d := d + 40) (o := 318) s1 hqi k12 kr (by omega)
  have k13' := m1.1.2.1
  cases Q with
  | inl v =>
    have s2 : CC (d + 41) 376 [.ref 70, .ref 318] (I, τ) = some (.inl (some (.int (iN 0))), (J, uL9 ρ 318 0 v.toInt64)) := s2
    have s3 : CC (d + 41) 328 [.ref 308] (J, uL9 ρ 318 0 v.toInt64) = some (.inl (some (.int v)), (K, uL9 ρ 318 0 v.toInt64)) := s3
    have s4 := t_208 (d := d + 41) (n := 0) m1.1 h7
    have s4 : CC (d + 41) 208 [.ref 308] (K, uL9 ρ 318 0 v.toInt64) = some (.inl (some (.int (iN 0))), (K, uL9 ρ 318 0 v.toInt64)) := s4
    have k13' : tK (uL9 ρ 318 0 v.toInt64) 308 = (13, 0) := k13'
    have m6 : tK (uL9 ρ 318 0 v.toInt64) 1 = (100, L) := m6
    have m4 : tK (uL9 ρ 318 0 v.toInt64) 318 = (105, 1) := m4
    have z0 : vp_in (iN 0) 1 = True := vp_iN (by omega) (by omega)
    have z1 : (iN 0).toNatClampNeg = 0 := iN_n (by omega)
    refine ⟨K, uL9 ρ 318 0 v.toInt64, _, some (.int (iN 0)), some (.int v), ?_, e1, e2, e3⟩
    rw [b_378_1771]
    simp only [kd_mk, k1, gd_true, true_and, and_true, and_self, iN_add, rd_I_mk, bd_ret, vl_some, s2, b_378_1774, m6, k13', s3, b_378_1777, s4, b_378_1780, cm7, if_true, m4, z0, z1, uL9_at, lgc, b_378_1795]
  | inr x =>
    have hx : x ∈ [3] := hqi
    have hix : [3].idxOf x ≤ 1 := List.idxOf_le_length
    have nz : (iN ([3].idxOf x + 1) = iN 0) = False := (iN_eq (by omega) (by omega)).trans (eq_false (by omega))
    have s2 : CC (d + 41) 376 [.ref 70, .ref 318] (I, τ) = some (.inl (some (.int (iN ([3].idxOf x + 1)))), (J, ρ)) := s2
    have s3 : CC (d + 41) 328 [.ref 308] (J, ρ) = some (.inl (some (.int (iN 0))), (K, ρ)) := s3
    have s4 : CC (d + 41) 208 [.ref 308] (K, ρ) = some (.inl (some (.int (iN ([3].idxOf x + 1)))), (K, ρ)) := t_208 (d := d + 41) (n := [3].idxOf x + 1) m1.1 h7
    have k13' : tK ρ 308 = (13, 0) := k13'
    have m6 : tK ρ 1 = (100, L) := m6
    refine ⟨K, ρ, _, some (.int (iN ([3].idxOf x + 1))), some (.int (iN 0)), ?_, e1, e2, e3⟩
    generalize hk : iN ([3].idxOf x + 1) = kk at *
    rw [b_378_1771]
    simp only [kd_mk, k1, gd_true, true_and, and_true, and_self, iN_add, rd_I_mk, bd_ret, vl_some, s2, b_378_1774, m6, k13', s3, b_378_1777, s4, b_378_1780, cm7, if_true, nz, if_false, b_378_1795]
theorem turn_59 (h : TI L xs I τ B C) (hB : B + 1400 ≤ 900000) (hi : i + 5 ≤ L) (hL : L ≤ 2560) : TT d L i 1796 xs I τ B := by
  intro u6 u7
  have k1 := h.2.2.2.2.2.1
  have x0 := h.2.2.2.2.2.2
  have k12 := h.1.1.2.1
  have k13 := h.2.1.1.2.1
  obtain ⟨J, ρ, s1, hp⟩ := p_save (d := d + 1) h.1
  obtain ⟨m1, m2, m3, m4, m5, m6, m7⟩ := TI_mid h hp Sq_rf
  obtain ⟨K, s3, hn⟩ := n_save (d := d + 1) m1
  obtain ⟨e1, e2, e3⟩ := TI_end h (by omega) (by omega) hp Sq_rf hn
  have k13' := m1.1.2.1
  refine ⟨K, ρ, _, u6, u7, ?_, e1, e2, e3⟩
  simp only [oO] at s1
  rw [b_378_1796]
  simp only [kd_mk, k12, gd_true, s1, bd_ret, vl_some, b_378_1798, k13', s3, b_378_1800, if_true, cm7]
theorem turn_60 (h : TI L xs I τ B C) (hB : B + 1400 ≤ 900000) (hi : i + 5 ≤ L) (hL : L ≤ 2560) : TT d L i 1803 xs I τ B := by
  intro u6 u7
  have k1 := h.2.2.2.2.2.1
  have x0 := h.2.2.2.2.2.2
  have k12 := h.1.1.2.1
  have k13 := h.2.1.1.2.1
  obtain ⟨J, ρ, s1, hp⟩ := p_restore (d := d) h.1
  have hqi : qin [2] (q_restore C) := qi_restore
  obtain ⟨m1, m2, m3, m4, m5, m6, m7⟩ := TI_mid h hp (Sq_lw (o := 318) (q := (q_restore C)))
  obtain ⟨K, s3, hn⟩ := n_restore (d := d + 1) m1
  obtain ⟨e1, e2, e3⟩ := TI_end h (by omega) (by omega) hp (Sq_lw (o := 318) (q := (q_restore C))) hn
  have h7 := hn.2.1
  have kr : tK ρ 318 = (105, 1) := by rw [← Sq_K (Sq_lw (o := 318) (q := (q_restore C)))]; exact m4
  generalize (q_restore C) = Q at *
  have s2 := w_377 (d := d + 40) (o := 318) s1 hqi k12 kr (by omega)
  have k13' := m1.1.2.1
  cases Q with
  | inl v =>
    have s2 : CC (d + 41) 377 [.ref 70, .ref 318] (I, τ) = some (.inl (some (.int (iN 0))), (J, uL9 ρ 318 0 v.toInt64)) := s2
    have s3 : CC (d + 41) 330 [.ref 308] (J, uL9 ρ 318 0 v.toInt64) = some (.inl (some (.int v)), (K, uL9 ρ 318 0 v.toInt64)) := s3
    have s4 := t_208 (d := d + 41) (n := 0) m1.1 h7
    have s4 : CC (d + 41) 208 [.ref 308] (K, uL9 ρ 318 0 v.toInt64) = some (.inl (some (.int (iN 0))), (K, uL9 ρ 318 0 v.toInt64)) := s4
    have k13' : tK (uL9 ρ 318 0 v.toInt64) 308 = (13, 0) := k13'
    have m6 : tK (uL9 ρ 318 0 v.toInt64) 1 = (100, L) := m6
    have m4 : tK (uL9 ρ 318 0 v.toInt64) 318 = (105, 1) := m4
    have z0 : vp_in (iN 0) 1 = True := vp_iN (by omega) (by omega)
    have z1 : (iN 0).toNatClampNeg = 0 := iN_n (by omega)
    refine ⟨K, uL9 ρ 318 0 v.toInt64, _, some (.int (iN 0)), some (.int v), ?_, e1, e2, e3⟩
    rw [b_378_1803]
    simp only [kd_mk, k1, gd_true, true_and, and_true, and_self, iN_add, rd_I_mk, bd_ret, vl_some, s2, b_378_1806, m6, k13', s3, b_378_1809, s4, b_378_1812, cm7, if_true, m4, z0, z1, uL9_at, lgc, b_378_1827]
  | inr x =>
    have hx : x ∈ [2] := hqi
    have hix : [2].idxOf x ≤ 1 := List.idxOf_le_length
    have nz : (iN ([2].idxOf x + 1) = iN 0) = False := (iN_eq (by omega) (by omega)).trans (eq_false (by omega))
    have s2 : CC (d + 41) 377 [.ref 70, .ref 318] (I, τ) = some (.inl (some (.int (iN ([2].idxOf x + 1)))), (J, ρ)) := s2
    have s3 : CC (d + 41) 330 [.ref 308] (J, ρ) = some (.inl (some (.int (iN 0))), (K, ρ)) := s3
    have s4 : CC (d + 41) 208 [.ref 308] (K, ρ) = some (.inl (some (.int (iN ([2].idxOf x + 1)))), (K, ρ)) := t_208 (d := d + 41) (n := [2].idxOf x + 1) m1.1 h7
    have k13' : tK ρ 308 = (13, 0) := k13'
    have m6 : tK ρ 1 = (100, L) := m6
    refine ⟨K, ρ, _, some (.int (iN ([2].idxOf x + 1))), some (.int (iN 0)), ?_, e1, e2, e3⟩
    generalize hk : iN ([2].idxOf x + 1) = kk at *
    rw [b_378_1803]
    simp only [kd_mk, k1, gd_true, true_and, and_true, and_self, iN_add, rd_I_mk, bd_ret, vl_some, s2, b_378_1806, m6, k13', s3, b_378_1809, s4, b_378_1812, cm7, if_true, nz, if_false, b_378_1827]
end TN
