/-! THE LAW: its turns -/
section TN
variable {d L i : Nat} {xs : Nat → Int32} {I : qq_I} {τ : qq_R} {B : Nat} {C : sC}
theorem turn_25 (h : TI L xs I τ B C) (hB : B + 1400 ≤ 900000) (hi : i + 5 ≤ L) (hL : L ≤ 2560) : TT d L i 956 xs I τ B := by
  intro u6 u7
  have k1 := h.2.2.2.2.2.1
  have x0 := h.2.2.2.2.2.2
  have k12 := h.1.1.2.1
  have k13 := h.2.1.1.2.1
  obtain ⟨J, ρ, s1, hp⟩ := p_writCount (d := d + 1) h.1
  obtain ⟨m1, m2, m3, m4, m5, m6, m7⟩ := TI_mid h hp Sq_rf
  obtain ⟨K, s3, hn⟩ := n_writCount (d := d + 1) m1
  obtain ⟨e1, e2, e3⟩ := TI_end h (by omega) (by omega) hp Sq_rf hn
  have k13' := m1.1.2.1
  refine ⟨K, ρ, _, u6, u7, ?_, e1, e2, e3⟩
  simp only [oO] at s1
  rw [b_378_956]
  simp only [kd_mk, k12, gd_true, s1, bd_ret, vl_some, b_378_958, k13', s3, b_378_960, if_true, cm7]
theorem turn_26 (h : TI L xs I τ B C) (hB : B + 1400 ≤ 900000) (hi : i + 5 ≤ L) (hL : L ≤ 2560) : TT d L i 963 xs I τ B := by
  intro u6 u7
  have k1 := h.2.2.2.2.2.1
  have x0 := h.2.2.2.2.2.2
  have k12 := h.1.1.2.1
  have k13 := h.2.1.1.2.1
  have x1 := x0 (i + 1) (by omega)
  obtain ⟨J, ρ, s1, hp⟩ := p_writAt (d := d) h.1 (xs (i + 1))
  have hqi : qin [3] (q_writAt (g_S C) (xs (i + 1))) := qi_writAt
  obtain ⟨m1, m2, m3, m4, m5, m6, m7⟩ := TI_mid h hp (Sq_lw (o := 318) (q := (q_writAt (g_S C) (xs (i + 1)))))
  obtain ⟨K, s3, hn⟩ := n_writAt (d := d + 1) m1 (xs (i + 1))
  obtain ⟨e1, e2, e3⟩ := TI_end h (by omega) (by omega) hp (Sq_lw (o := 318) (q := (q_writAt (g_S C) (xs (i + 1))))) hn
  have y1 : J 1 (i + 1) = xs (i + 1) := by rw [m7]; exact x1
  have h7 := hn.2.1
  have kr : tK ρ 318 = (105, 1) := by rw [← Sq_K (Sq_lw (o := 318) (q := (q_writAt (g_S C) (xs (i + 1)))))]; exact m4
  generalize (q_writAt (g_S C) (xs (i + 1))) = Q at *
  have s2 := w_354 (d := d + 40) (o := 318) (xs (i + 1)) s1 hqi k12 kr (by omega)
  have k13' := m1.1.2.1
  have v1 : vp_in (iN (i + 1)) L = True := vp_iN (by omega) (by omega)
  have w1 : (iN (i + 1)).toNatClampNeg = i + 1 := iN_n (by omega)
  cases Q with
  | inl v =>
    have s2 : CC (d + 41) 354 [.ref 70, .int ((xs (i + 1))), .ref 318] (I, τ) = some (.inl (some (.int (iN 0))), (J, uL9 ρ 318 0 v.toInt64)) := s2
    have s3 : CC (d + 41) 275 [.ref 308, .int ((xs (i + 1)))] (J, uL9 ρ 318 0 v.toInt64) = some (.inl (some (.int v)), (K, uL9 ρ 318 0 v.toInt64)) := s3
    have s4 := t_208 (d := d + 41) (n := 0) m1.1 h7
    have s4 : CC (d + 41) 208 [.ref 308] (K, uL9 ρ 318 0 v.toInt64) = some (.inl (some (.int (iN 0))), (K, uL9 ρ 318 0 v.toInt64)) := s4
    have k13' : tK (uL9 ρ 318 0 v.toInt64) 308 = (13, 0) := k13'
    have m6 : tK (uL9 ρ 318 0 v.toInt64) 1 = (100, L) := m6
    have m4 : tK (uL9 ρ 318 0 v.toInt64) 318 = (105, 1) := m4
    have z0 : vp_in (iN 0) 1 = True := vp_iN (by omega) (by omega)
    have z1 : (iN 0).toNatClampNeg = 0 := iN_n (by omega)
    refine ⟨K, uL9 ρ 318 0 v.toInt64, _, some (.int (iN 0)), some (.int v), ?_, e1, e2, e3⟩
    rw [b_378_963]
    simp only [kd_mk, k1, gd_true, true_and, and_true, and_self, iN_add, v1, w1, rd_I_mk, bd_ret, vl_some, x1, s2, b_378_971, m6, y1, k13', s3, b_378_979, s4, b_378_982, cm7, if_true, m4, z0, z1, uL9_at, lgc, b_378_997]
  | inr x =>
    have hx : x ∈ [3] := hqi
    have hix : [3].idxOf x ≤ 1 := List.idxOf_le_length
    have nz : (iN ([3].idxOf x + 1) = iN 0) = False := (iN_eq (by omega) (by omega)).trans (eq_false (by omega))
    have s2 : CC (d + 41) 354 [.ref 70, .int ((xs (i + 1))), .ref 318] (I, τ) = some (.inl (some (.int (iN ([3].idxOf x + 1)))), (J, ρ)) := s2
    have s3 : CC (d + 41) 275 [.ref 308, .int ((xs (i + 1)))] (J, ρ) = some (.inl (some (.int (iN 0))), (K, ρ)) := s3
    have s4 : CC (d + 41) 208 [.ref 308] (K, ρ) = some (.inl (some (.int (iN ([3].idxOf x + 1)))), (K, ρ)) := t_208 (d := d + 41) (n := [3].idxOf x + 1) m1.1 h7
    have k13' : tK ρ 308 = (13, 0) := k13'
    have m6 : tK ρ 1 = (100, L) := m6
    refine ⟨K, ρ, _, some (.int (iN ([3].idxOf x + 1))), some (.int (iN 0)), ?_, e1, e2, e3⟩
    generalize hk : iN ([3].idxOf x + 1) = kk at *
    rw [b_378_963]
    simp only [kd_mk, k1, gd_true, true_and, and_true, and_self, iN_add, v1, w1, rd_I_mk, bd_ret, vl_some, x1, s2, b_378_971, m6, y1, k13', s3, b_378_979, s4, b_378_982, cm7, if_true, nz, if_false, b_378_997]
theorem turn_27 (h : TI L xs I τ B C) (hB : B + 1400 ≤ 900000) (hi : i + 5 ≤ L) (hL : L ≤ 2560) : TT d L i 998 xs I τ B := by
  intro u6 u7
  have k1 := h.2.2.2.2.2.1
  have x0 := h.2.2.2.2.2.2
  have k12 := h.1.1.2.1
  have k13 := h.2.1.1.2.1
  have x1 := x0 (i + 1) (by omega)
  obtain ⟨J, ρ, s1, hp⟩ := p_statueOf (d := d) h.1 (xs (i + 1))
  have hqi : qin [3] (q_wr (fun k => iN (w_of (ug (s_U (g_S C)) k))) (g_S C) (xs (i + 1))) := qi_wr
  obtain ⟨m1, m2, m3, m4, m5, m6, m7⟩ := TI_mid h hp (Sq_lw (o := 318) (q := (q_wr (fun k => iN (w_of (ug (s_U (g_S C)) k))) (g_S C) (xs (i + 1)))))
  obtain ⟨K, s3, hn⟩ := n_statueOf (d := d + 1) m1 (xs (i + 1))
  obtain ⟨e1, e2, e3⟩ := TI_end h (by omega) (by omega) hp (Sq_lw (o := 318) (q := (q_wr (fun k => iN (w_of (ug (s_U (g_S C)) k))) (g_S C) (xs (i + 1))))) hn
  have y1 : J 1 (i + 1) = xs (i + 1) := by rw [m7]; exact x1
  have h7 := hn.2.1
  have kr : tK ρ 318 = (105, 1) := by rw [← Sq_K (Sq_lw (o := 318) (q := (q_wr (fun k => iN (w_of (ug (s_U (g_S C)) k))) (g_S C) (xs (i + 1)))))]; exact m4
  generalize (q_wr (fun k => iN (w_of (ug (s_U (g_S C)) k))) (g_S C) (xs (i + 1))) = Q at *
  have s2 := w_355 (d := d + 40) (o := 318) (xs (i + 1)) s1 hqi k12 kr (by omega)
  have k13' := m1.1.2.1
  have v1 : vp_in (iN (i + 1)) L = True := vp_iN (by omega) (by omega)
  have w1 : (iN (i + 1)).toNatClampNeg = i + 1 := iN_n (by omega)
  cases Q with
  | inl v =>
    have s2 : CC (d + 41) 355 [.ref 70, .int ((xs (i + 1))), .ref 318] (I, τ) = some (.inl (some (.int (iN 0))), (J, uL9 ρ 318 0 v.toInt64)) := s2
    have s3 : CC (d + 41) 277 [.ref 308, .int ((xs (i + 1)))] (J, uL9 ρ 318 0 v.toInt64) = some (.inl (some (.int v)), (K, uL9 ρ 318 0 v.toInt64)) := s3
    have s4 := t_208 (d := d + 41) (n := 0) m1.1 h7
    have s4 : CC (d + 41) 208 [.ref 308] (K, uL9 ρ 318 0 v.toInt64) = some (.inl (some (.int (iN 0))), (K, uL9 ρ 318 0 v.toInt64)) := s4
    have k13' : tK (uL9 ρ 318 0 v.toInt64) 308 = (13, 0) := k13'
    have m6 : tK (uL9 ρ 318 0 v.toInt64) 1 = (100, L) := m6
    have m4 : tK (uL9 ρ 318 0 v.toInt64) 318 = (105, 1) := m4
    have z0 : vp_in (iN 0) 1 = True := vp_iN (by omega) (by omega)
    have z1 : (iN 0).toNatClampNeg = 0 := iN_n (by omega)
    refine ⟨K, uL9 ρ 318 0 v.toInt64, _, some (.int (iN 0)), some (.int v), ?_, e1, e2, e3⟩
    rw [b_378_998]
    simp only [kd_mk, k1, gd_true, true_and, and_true, and_self, iN_add, v1, w1, rd_I_mk, bd_ret, vl_some, x1, s2, b_378_1006, m6, y1, k13', s3, b_378_1014, s4, b_378_1017, cm7, if_true, m4, z0, z1, uL9_at, lgc, b_378_1032]
  | inr x =>
    have hx : x ∈ [3] := hqi
    have hix : [3].idxOf x ≤ 1 := List.idxOf_le_length
    have nz : (iN ([3].idxOf x + 1) = iN 0) = False := (iN_eq (by omega) (by omega)).trans (eq_false (by omega))
    have s2 : CC (d + 41) 355 [.ref 70, .int ((xs (i + 1))), .ref 318] (I, τ) = some (.inl (some (.int (iN ([3].idxOf x + 1)))), (J, ρ)) := s2
    have s3 : CC (d + 41) 277 [.ref 308, .int ((xs (i + 1)))] (J, ρ) = some (.inl (some (.int (iN 0))), (K, ρ)) := s3
    have s4 : CC (d + 41) 208 [.ref 308] (K, ρ) = some (.inl (some (.int (iN ([3].idxOf x + 1)))), (K, ρ)) := t_208 (d := d + 41) (n := [3].idxOf x + 1) m1.1 h7
    have k13' : tK ρ 308 = (13, 0) := k13'
    have m6 : tK ρ 1 = (100, L) := m6
    refine ⟨K, ρ, _, some (.int (iN ([3].idxOf x + 1))), some (.int (iN 0)), ?_, e1, e2, e3⟩
    generalize hk : iN ([3].idxOf x + 1) = kk at *
    rw [b_378_998]
    simp only [kd_mk, k1, gd_true, true_and, and_true, and_self, iN_add, v1, w1, rd_I_mk, bd_ret, vl_some, x1, s2, b_378_1006, m6, y1, k13', s3, b_378_1014, s4, b_378_1017, cm7, if_true, nz, if_false, b_378_1032]
theorem turn_28 (h : TI L xs I τ B C) (hB : B + 1400 ≤ 900000) (hi : i + 5 ≤ L) (hL : L ≤ 2560) : TT d L i 1033 xs I τ B := by
  intro u6 u7
  have k1 := h.2.2.2.2.2.1
  have x0 := h.2.2.2.2.2.2
  have k12 := h.1.1.2.1
  have k13 := h.2.1.1.2.1
  have x1 := x0 (i + 1) (by omega)
  obtain ⟨J, ρ, s1, hp⟩ := p_lastNight (d := d) h.1 (xs (i + 1))
  have hqi : qin [3] (q_wr (fun k => iN (w_la (ug (s_U (g_S C)) k))) (g_S C) (xs (i + 1))) := qi_wr
  obtain ⟨m1, m2, m3, m4, m5, m6, m7⟩ := TI_mid h hp (Sq_lw (o := 318) (q := (q_wr (fun k => iN (w_la (ug (s_U (g_S C)) k))) (g_S C) (xs (i + 1)))))
  obtain ⟨K, s3, hn⟩ := n_lastNight (d := d + 1) m1 (xs (i + 1))
  obtain ⟨e1, e2, e3⟩ := TI_end h (by omega) (by omega) hp (Sq_lw (o := 318) (q := (q_wr (fun k => iN (w_la (ug (s_U (g_S C)) k))) (g_S C) (xs (i + 1))))) hn
  have y1 : J 1 (i + 1) = xs (i + 1) := by rw [m7]; exact x1
  have h7 := hn.2.1
  have kr : tK ρ 318 = (105, 1) := by rw [← Sq_K (Sq_lw (o := 318) (q := (q_wr (fun k => iN (w_la (ug (s_U (g_S C)) k))) (g_S C) (xs (i + 1)))))]; exact m4
  generalize (q_wr (fun k => iN (w_la (ug (s_U (g_S C)) k))) (g_S C) (xs (i + 1))) = Q at *
  have s2 := w_356 (d := d + 40) (o := 318) (xs (i + 1)) s1 hqi k12 kr (by omega)
  have k13' := m1.1.2.1
  have v1 : vp_in (iN (i + 1)) L = True := vp_iN (by omega) (by omega)
  have w1 : (iN (i + 1)).toNatClampNeg = i + 1 := iN_n (by omega)
  cases Q with
  | inl v =>
    have s2 : CC (d + 41) 356 [.ref 70, .int ((xs (i + 1))), .ref 318] (I, τ) = some (.inl (some (.int (iN 0))), (J, uL9 ρ 318 0 v.toInt64)) := s2
    have s3 : CC (d + 41) 278 [.ref 308, .int ((xs (i + 1)))] (J, uL9 ρ 318 0 v.toInt64) = some (.inl (some (.int v)), (K, uL9 ρ 318 0 v.toInt64)) := s3
    have s4 := t_208 (d := d + 41) (n := 0) m1.1 h7
    have s4 : CC (d + 41) 208 [.ref 308] (K, uL9 ρ 318 0 v.toInt64) = some (.inl (some (.int (iN 0))), (K, uL9 ρ 318 0 v.toInt64)) := s4
    have k13' : tK (uL9 ρ 318 0 v.toInt64) 308 = (13, 0) := k13'
    have m6 : tK (uL9 ρ 318 0 v.toInt64) 1 = (100, L) := m6
    have m4 : tK (uL9 ρ 318 0 v.toInt64) 318 = (105, 1) := m4
    have z0 : vp_in (iN 0) 1 = True := vp_iN (by omega) (by omega)
    have z1 : (iN 0).toNatClampNeg = 0 := iN_n (by omega)
    refine ⟨K, uL9 ρ 318 0 v.toInt64, _, some (.int (iN 0)), some (.int v), ?_, e1, e2, e3⟩
    rw [b_378_1033]
    simp only [kd_mk, k1, gd_true, true_and, and_true, and_self, iN_add, v1, w1, rd_I_mk, bd_ret, vl_some, x1, s2, b_378_1041, m6, y1, k13', s3, b_378_1049, s4, b_378_1052, cm7, if_true, m4, z0, z1, uL9_at, lgc, b_378_1067]
  | inr x =>
    have hx : x ∈ [3] := hqi
    have hix : [3].idxOf x ≤ 1 := List.idxOf_le_length
    have nz : (iN ([3].idxOf x + 1) = iN 0) = False := (iN_eq (by omega) (by omega)).trans (eq_false (by omega))
    have s2 : CC (d + 41) 356 [.ref 70, .int ((xs (i + 1))), .ref 318] (I, τ) = some (.inl (some (.int (iN ([3].idxOf x + 1)))), (J, ρ)) := s2
    have s3 : CC (d + 41) 278 [.ref 308, .int ((xs (i + 1)))] (J, ρ) = some (.inl (some (.int (iN 0))), (K, ρ)) := s3
    have s4 : CC (d + 41) 208 [.ref 308] (K, ρ) = some (.inl (some (.int (iN ([3].idxOf x + 1)))), (K, ρ)) := t_208 (d := d + 41) (n := [3].idxOf x + 1) m1.1 h7
    have k13' : tK ρ 308 = (13, 0) := k13'
    have m6 : tK ρ 1 = (100, L) := m6
    refine ⟨K, ρ, _, some (.int (iN ([3].idxOf x + 1))), some (.int (iN 0)), ?_, e1, e2, e3⟩
    generalize hk : iN ([3].idxOf x + 1) = kk at *
    rw [b_378_1033]
    simp only [kd_mk, k1, gd_true, true_and, and_true, and_self, iN_add, v1, w1, rd_I_mk, bd_ret, vl_some, x1, s2, b_378_1041, m6, y1, k13', s3, b_378_1049, s4, b_378_1052, cm7, if_true, nz, if_false, b_378_1067]
theorem turn_29 (h : TI L xs I τ B C) (hB : B + 1400 ≤ 900000) (hi : i + 5 ≤ L) (hL : L ≤ 2560) : TT d L i 1068 xs I τ B := by
  intro u6 u7
  have k1 := h.2.2.2.2.2.1
  have x0 := h.2.2.2.2.2.2
  have k12 := h.1.1.2.1
  have k13 := h.2.1.1.2.1
  have x1 := x0 (i + 1) (by omega)
  obtain ⟨J, ρ, s1, hp⟩ := p_bail (d := d) h.1 (xs (i + 1))
  have hqi : qin [3] (q_wr (fun k => iN (w_ba (ug (s_U (g_S C)) k))) (g_S C) (xs (i + 1))) := qi_wr
  obtain ⟨m1, m2, m3, m4, m5, m6, m7⟩ := TI_mid h hp (Sq_lw (o := 318) (q := (q_wr (fun k => iN (w_ba (ug (s_U (g_S C)) k))) (g_S C) (xs (i + 1)))))
  obtain ⟨K, s3, hn⟩ := n_bail (d := d + 1) m1 (xs (i + 1))
  obtain ⟨e1, e2, e3⟩ := TI_end h (by omega) (by omega) hp (Sq_lw (o := 318) (q := (q_wr (fun k => iN (w_ba (ug (s_U (g_S C)) k))) (g_S C) (xs (i + 1))))) hn
  have y1 : J 1 (i + 1) = xs (i + 1) := by rw [m7]; exact x1
  have h7 := hn.2.1
  have kr : tK ρ 318 = (105, 1) := by rw [← Sq_K (Sq_lw (o := 318) (q := (q_wr (fun k => iN (w_ba (ug (s_U (g_S C)) k))) (g_S C) (xs (i + 1)))))]; exact m4
  generalize (q_wr (fun k => iN (w_ba (ug (s_U (g_S C)) k))) (g_S C) (xs (i + 1))) = Q at *
  have s2 := w_357 (d := d + 40) (o := 318) (xs (i + 1)) s1 hqi k12 kr (by omega)
  have k13' := m1.1.2.1
  have v1 : vp_in (iN (i + 1)) L = True := vp_iN (by omega) (by omega)
  have w1 : (iN (i + 1)).toNatClampNeg = i + 1 := iN_n (by omega)
  cases Q with
  | inl v =>
    have s2 : CC (d + 41) 357 [.ref 70, .int ((xs (i + 1))), .ref 318] (I, τ) = some (.inl (some (.int (iN 0))), (J, uL9 ρ 318 0 v.toInt64)) := s2
    have s3 : CC (d + 41) 279 [.ref 308, .int ((xs (i + 1)))] (J, uL9 ρ 318 0 v.toInt64) = some (.inl (some (.int v)), (K, uL9 ρ 318 0 v.toInt64)) := s3
    have s4 := t_208 (d := d + 41) (n := 0) m1.1 h7
    have s4 : CC (d + 41) 208 [.ref 308] (K, uL9 ρ 318 0 v.toInt64) = some (.inl (some (.int (iN 0))), (K, uL9 ρ 318 0 v.toInt64)) := s4
    have k13' : tK (uL9 ρ 318 0 v.toInt64) 308 = (13, 0) := k13'
    have m6 : tK (uL9 ρ 318 0 v.toInt64) 1 = (100, L) := m6
    have m4 : tK (uL9 ρ 318 0 v.toInt64) 318 = (105, 1) := m4
    have z0 : vp_in (iN 0) 1 = True := vp_iN (by omega) (by omega)
    have z1 : (iN 0).toNatClampNeg = 0 := iN_n (by omega)
    refine ⟨K, uL9 ρ 318 0 v.toInt64, _, some (.int (iN 0)), some (.int v), ?_, e1, e2, e3⟩
    rw [b_378_1068]
    simp only [kd_mk, k1, gd_true, true_and, and_true, and_self, iN_add, v1, w1, rd_I_mk, bd_ret, vl_some, x1, s2, b_378_1076, m6, y1, k13', s3, b_378_1084, s4, b_378_1087, cm7, if_true, m4, z0, z1, uL9_at, lgc, b_378_1102]
  | inr x =>
    have hx : x ∈ [3] := hqi
    have hix : [3].idxOf x ≤ 1 := List.idxOf_le_length
    have nz : (iN ([3].idxOf x + 1) = iN 0) = False := (iN_eq (by omega) (by omega)).trans (eq_false (by omega))
    have s2 : CC (d + 41) 357 [.ref 70, .int ((xs (i + 1))), .ref 318] (I, τ) = some (.inl (some (.int (iN ([3].idxOf x + 1)))), (J, ρ)) := s2
    have s3 : CC (d + 41) 279 [.ref 308, .int ((xs (i + 1)))] (J, ρ) = some (.inl (some (.int (iN 0))), (K, ρ)) := s3
    have s4 : CC (d + 41) 208 [.ref 308] (K, ρ) = some (.inl (some (.int (iN ([3].idxOf x + 1)))), (K, ρ)) := t_208 (d := d + 41) (n := [3].idxOf x + 1) m1.1 h7
    have k13' : tK ρ 308 = (13, 0) := k13'
    have m6 : tK ρ 1 = (100, L) := m6
    refine ⟨K, ρ, _, some (.int (iN ([3].idxOf x + 1))), some (.int (iN 0)), ?_, e1, e2, e3⟩
    generalize hk : iN ([3].idxOf x + 1) = kk at *
    rw [b_378_1068]
    simp only [kd_mk, k1, gd_true, true_and, and_true, and_self, iN_add, v1, w1, rd_I_mk, bd_ret, vl_some, x1, s2, b_378_1076, m6, y1, k13', s3, b_378_1084, s4, b_378_1087, cm7, if_true, nz, if_false, b_378_1102]
theorem turn_30 (h : TI L xs I τ B C) (hB : B + 1400 ≤ 900000) (hi : i + 5 ≤ L) (hL : L ≤ 2560) : TT d L i 1103 xs I τ B := by
  intro u6 u7
  have k1 := h.2.2.2.2.2.1
  have x0 := h.2.2.2.2.2.2
  have k12 := h.1.1.2.1
  have k13 := h.2.1.1.2.1
  have x1 := x0 (i + 1) (by omega)
  obtain ⟨J, ρ, s1, hp⟩ := p_isPaid (d := d) h.1 (xs (i + 1))
  have hqi : qin [3] (q_wr (fun k => iN (w_pd (ug (s_U (g_S C)) k))) (g_S C) (xs (i + 1))) := qi_wr
  obtain ⟨m1, m2, m3, m4, m5, m6, m7⟩ := TI_mid h hp (Sq_lw (o := 318) (q := (q_wr (fun k => iN (w_pd (ug (s_U (g_S C)) k))) (g_S C) (xs (i + 1)))))
  obtain ⟨K, s3, hn⟩ := n_isPaid (d := d + 1) m1 (xs (i + 1))
  have hqv : ∀ v, (q_wr (fun k => iN (w_pd (ug (s_U (g_S C)) k))) (g_S C) (xs (i + 1))) = .inl v → v = iN 0 ∨ v = iN 1 := (qv_isPaid h.1.2.2.1)
  obtain ⟨e1, e2, e3⟩ := TI_end h (by omega) (by omega) hp (Sq_lw (o := 318) (q := (q_wr (fun k => iN (w_pd (ug (s_U (g_S C)) k))) (g_S C) (xs (i + 1))))) hn
  have y1 : J 1 (i + 1) = xs (i + 1) := by rw [m7]; exact x1
  have h7 := hn.2.1
  have kr : tK ρ 318 = (105, 1) := by rw [← Sq_K (Sq_lw (o := 318) (q := (q_wr (fun k => iN (w_pd (ug (s_U (g_S C)) k))) (g_S C) (xs (i + 1)))))]; exact m4
  generalize (q_wr (fun k => iN (w_pd (ug (s_U (g_S C)) k))) (g_S C) (xs (i + 1))) = Q at *
  have s2 := w_358 (d := d + 40) (o := 318) (xs (i + 1)) s1 hqi hqv k12 kr (by omega)
  have k13' := m1.1.2.1
  have v1 : vp_in (iN (i + 1)) L = True := vp_iN (by omega) (by omega)
  have w1 : (iN (i + 1)).toNatClampNeg = i + 1 := iN_n (by omega)
  cases Q with
  | inl v =>
    have s2 : CC (d + 41) 358 [.ref 70, .int ((xs (i + 1))), .ref 318] (I, τ) = some (.inl (some (.int (iN 0))), (J, uL9 ρ 318 0 v.toInt64)) := s2
    have s3 : CC (d + 41) 280 [.ref 308, .int ((xs (i + 1)))] (J, uL9 ρ 318 0 v.toInt64) = some (.inl (some (.int v)), (K, uL9 ρ 318 0 v.toInt64)) := s3
    have s4 := t_208 (d := d + 41) (n := 0) m1.1 h7
    have s4 : CC (d + 41) 208 [.ref 308] (K, uL9 ρ 318 0 v.toInt64) = some (.inl (some (.int (iN 0))), (K, uL9 ρ 318 0 v.toInt64)) := s4
    have k13' : tK (uL9 ρ 318 0 v.toInt64) 308 = (13, 0) := k13'
    have m6 : tK (uL9 ρ 318 0 v.toInt64) 1 = (100, L) := m6
    have m4 : tK (uL9 ρ 318 0 v.toInt64) 318 = (105, 1) := m4
    have z0 : vp_in (iN 0) 1 = True := vp_iN (by omega) (by omega)
    have z1 : (iN 0).toNatClampNeg = 0 := iN_n (by omega)
    rcases hqv v rfl with rfl | rfl
    · refine ⟨K, uL9 ρ 318 0 (iN 0).toInt64, _, some (.int (iN 0)), some (.int (iN 0)), ?_, e1, e2, e3⟩
      have lr : rd_L (K, uL9 ρ 318 0 (iN 0).toInt64) 318 0 = Int64.ofNat 0 := (uL9_at).trans l01.1
      rw [b_378_1103]
      simp only [kd_mk, k1, gd_true, true_and, and_true, and_self, iN_add, v1, w1, rd_I_mk, bd_ret, vl_some, x1, s2, b_378_1111, m6, y1, k13', s3, b_378_1119, s4, b_378_1122, cm7, if_true, m4, z0, z1, n10i, if_false, lr, b_378_1136, lgc, b_378_1140]
    · refine ⟨K, uL9 ρ 318 0 (iN 1).toInt64, _, some (.int (iN 0)), some (.int (iN 1)), ?_, e1, e2, e3⟩
      have lr : rd_L (K, uL9 ρ 318 0 (iN 1).toInt64) 318 0 = Int64.ofNat 1 := (uL9_at).trans l01.2
      rw [b_378_1103]
      simp only [kd_mk, k1, gd_true, true_and, and_true, and_self, iN_add, v1, w1, rd_I_mk, bd_ret, vl_some, x1, s2, b_378_1111, m6, y1, k13', s3, b_378_1119, s4, b_378_1122, cm7, if_true, m4, z0, z1, n10i, if_false, lr, b_378_1136, lgc, b_378_1140]
  | inr x =>
    have hx : x ∈ [3] := hqi
    have hix : [3].idxOf x ≤ 1 := List.idxOf_le_length
    have nz : (iN ([3].idxOf x + 1) = iN 0) = False := (iN_eq (by omega) (by omega)).trans (eq_false (by omega))
    have s2 : CC (d + 41) 358 [.ref 70, .int ((xs (i + 1))), .ref 318] (I, τ) = some (.inl (some (.int (iN ([3].idxOf x + 1)))), (J, ρ)) := s2
    have s3 : CC (d + 41) 280 [.ref 308, .int ((xs (i + 1)))] (J, ρ) = some (.inl (some (.int (iN 0))), (K, ρ)) := s3
    have s4 : CC (d + 41) 208 [.ref 308] (K, ρ) = some (.inl (some (.int (iN ([3].idxOf x + 1)))), (K, ρ)) := t_208 (d := d + 41) (n := [3].idxOf x + 1) m1.1 h7
    have k13' : tK ρ 308 = (13, 0) := k13'
    have m6 : tK ρ 1 = (100, L) := m6
    refine ⟨K, ρ, _, some (.int (iN ([3].idxOf x + 1))), some (.int (iN 0)), ?_, e1, e2, e3⟩
    generalize hk : iN ([3].idxOf x + 1) = kk at *
    rw [b_378_1103]
    simp only [kd_mk, k1, gd_true, true_and, and_true, and_self, iN_add, v1, w1, rd_I_mk, bd_ret, vl_some, x1, s2, b_378_1111, m6, y1, k13', s3, b_378_1119, s4, b_378_1122, cm7, if_true, nz, if_false, b_378_1140]
theorem turn_31 (h : TI L xs I τ B C) (hB : B + 1400 ≤ 900000) (hi : i + 5 ≤ L) (hL : L ≤ 2560) : TT d L i 1141 xs I τ B := by
  intro u6 u7
  have k1 := h.2.2.2.2.2.1
  have x0 := h.2.2.2.2.2.2
  have k12 := h.1.1.2.1
  have k13 := h.2.1.1.2.1
  have x1 := x0 (i + 1) (by omega)
  obtain ⟨J, ρ, s1, hp⟩ := p_causeOf (d := d) h.1 (xs (i + 1))
  have hqi : qin [3] (q_cause (g_S C) (xs (i + 1))) := qi_cause
  obtain ⟨m1, m2, m3, m4, m5, m6, m7⟩ := TI_mid h hp (Sq_lw (o := 318) (q := (q_cause (g_S C) (xs (i + 1)))))
  obtain ⟨K, s3, hn⟩ := n_causeOf (d := d + 1) m1 (xs (i + 1))
  obtain ⟨e1, e2, e3⟩ := TI_end h (by omega) (by omega) hp (Sq_lw (o := 318) (q := (q_cause (g_S C) (xs (i + 1))))) hn
  have y1 : J 1 (i + 1) = xs (i + 1) := by rw [m7]; exact x1
  have h7 := hn.2.1
  have kr : tK ρ 318 = (105, 1) := by rw [← Sq_K (Sq_lw (o := 318) (q := (q_cause (g_S C) (xs (i + 1)))))]; exact m4
  generalize (q_cause (g_S C) (xs (i + 1))) = Q at *
  have s2 := w_359 (d := d + 40) (o := 318) (xs (i + 1)) s1 hqi k12 kr (by omega)
  have k13' := m1.1.2.1
  have v1 : vp_in (iN (i + 1)) L = True := vp_iN (by omega) (by omega)
  have w1 : (iN (i + 1)).toNatClampNeg = i + 1 := iN_n (by omega)
  cases Q with
  | inl v =>
    have s2 : CC (d + 41) 359 [.ref 70, .int ((xs (i + 1))), .ref 318] (I, τ) = some (.inl (some (.int (iN 0))), (J, uL9 ρ 318 0 v.toInt64)) := s2
    have s3 : CC (d + 41) 281 [.ref 308, .int ((xs (i + 1)))] (J, uL9 ρ 318 0 v.toInt64) = some (.inl (some (.int v)), (K, uL9 ρ 318 0 v.toInt64)) := s3
    have s4 := t_208 (d := d + 41) (n := 0) m1.1 h7
    have s4 : CC (d + 41) 208 [.ref 308] (K, uL9 ρ 318 0 v.toInt64) = some (.inl (some (.int (iN 0))), (K, uL9 ρ 318 0 v.toInt64)) := s4
    have k13' : tK (uL9 ρ 318 0 v.toInt64) 308 = (13, 0) := k13'
    have m6 : tK (uL9 ρ 318 0 v.toInt64) 1 = (100, L) := m6
    have m4 : tK (uL9 ρ 318 0 v.toInt64) 318 = (105, 1) := m4
    have z0 : vp_in (iN 0) 1 = True := vp_iN (by omega) (by omega)
    have z1 : (iN 0).toNatClampNeg = 0 := iN_n (by omega)
    refine ⟨K, uL9 ρ 318 0 v.toInt64, _, some (.int (iN 0)), some (.int v), ?_, e1, e2, e3⟩
    rw [b_378_1141]
    simp only [kd_mk, k1, gd_true, true_and, and_true, and_self, iN_add, v1, w1, rd_I_mk, bd_ret, vl_some, x1, s2, b_378_1149, m6, y1, k13', s3, b_378_1157, s4, b_378_1160, cm7, if_true, m4, z0, z1, uL9_at, lgc, b_378_1175]
  | inr x =>
    have hx : x ∈ [3] := hqi
    have hix : [3].idxOf x ≤ 1 := List.idxOf_le_length
    have nz : (iN ([3].idxOf x + 1) = iN 0) = False := (iN_eq (by omega) (by omega)).trans (eq_false (by omega))
    have s2 : CC (d + 41) 359 [.ref 70, .int ((xs (i + 1))), .ref 318] (I, τ) = some (.inl (some (.int (iN ([3].idxOf x + 1)))), (J, ρ)) := s2
    have s3 : CC (d + 41) 281 [.ref 308, .int ((xs (i + 1)))] (J, ρ) = some (.inl (some (.int (iN 0))), (K, ρ)) := s3
    have s4 : CC (d + 41) 208 [.ref 308] (K, ρ) = some (.inl (some (.int (iN ([3].idxOf x + 1)))), (K, ρ)) := t_208 (d := d + 41) (n := [3].idxOf x + 1) m1.1 h7
    have k13' : tK ρ 308 = (13, 0) := k13'
    have m6 : tK ρ 1 = (100, L) := m6
    refine ⟨K, ρ, _, some (.int (iN ([3].idxOf x + 1))), some (.int (iN 0)), ?_, e1, e2, e3⟩
    generalize hk : iN ([3].idxOf x + 1) = kk at *
    rw [b_378_1141]
    simp only [kd_mk, k1, gd_true, true_and, and_true, and_self, iN_add, v1, w1, rd_I_mk, bd_ret, vl_some, x1, s2, b_378_1149, m6, y1, k13', s3, b_378_1157, s4, b_378_1160, cm7, if_true, nz, if_false, b_378_1175]
theorem turn_32 (h : TI L xs I τ B C) (hB : B + 1400 ≤ 900000) (hi : i + 5 ≤ L) (hL : L ≤ 2560) : TT d L i 1176 xs I τ B := by
  intro u6 u7
  have k1 := h.2.2.2.2.2.1
  have x0 := h.2.2.2.2.2.2
  have k12 := h.1.1.2.1
  have k13 := h.2.1.1.2.1
  have x1 := x0 (i + 1) (by omega)
  obtain ⟨J, ρ, s1, hp⟩ := p_causeDepth (d := d) h.1 (xs (i + 1))
  have hqi : qin [3] (q_wr (fun k => iN (dpU (s_U (g_S C)) 8 k)) (g_S C) (xs (i + 1))) := qi_wr
  obtain ⟨m1, m2, m3, m4, m5, m6, m7⟩ := TI_mid h hp (Sq_lw (o := 318) (q := (q_wr (fun k => iN (dpU (s_U (g_S C)) 8 k)) (g_S C) (xs (i + 1)))))
  obtain ⟨K, s3, hn⟩ := n_causeDepth (d := d + 1) m1 (xs (i + 1))
  obtain ⟨e1, e2, e3⟩ := TI_end h (by omega) (by omega) hp (Sq_lw (o := 318) (q := (q_wr (fun k => iN (dpU (s_U (g_S C)) 8 k)) (g_S C) (xs (i + 1))))) hn
  have y1 : J 1 (i + 1) = xs (i + 1) := by rw [m7]; exact x1
  have h7 := hn.2.1
  have kr : tK ρ 318 = (105, 1) := by rw [← Sq_K (Sq_lw (o := 318) (q := (q_wr (fun k => iN (dpU (s_U (g_S C)) 8 k)) (g_S C) (xs (i + 1)))))]; exact m4
  generalize (q_wr (fun k => iN (dpU (s_U (g_S C)) 8 k)) (g_S C) (xs (i + 1))) = Q at *
  have s2 := w_360 (d := d + 40) (o := 318) (xs (i + 1)) s1 hqi k12 kr (by omega)
  have k13' := m1.1.2.1
  have v1 : vp_in (iN (i + 1)) L = True := vp_iN (by omega) (by omega)
  have w1 : (iN (i + 1)).toNatClampNeg = i + 1 := iN_n (by omega)
  cases Q with
  | inl v =>
    have s2 : CC (d + 41) 360 [.ref 70, .int ((xs (i + 1))), .ref 318] (I, τ) = some (.inl (some (.int (iN 0))), (J, uL9 ρ 318 0 v.toInt64)) := s2
    have s3 : CC (d + 41) 282 [.ref 308, .int ((xs (i + 1)))] (J, uL9 ρ 318 0 v.toInt64) = some (.inl (some (.int v)), (K, uL9 ρ 318 0 v.toInt64)) := s3
    have s4 := t_208 (d := d + 41) (n := 0) m1.1 h7
    have s4 : CC (d + 41) 208 [.ref 308] (K, uL9 ρ 318 0 v.toInt64) = some (.inl (some (.int (iN 0))), (K, uL9 ρ 318 0 v.toInt64)) := s4
    have k13' : tK (uL9 ρ 318 0 v.toInt64) 308 = (13, 0) := k13'
    have m6 : tK (uL9 ρ 318 0 v.toInt64) 1 = (100, L) := m6
    have m4 : tK (uL9 ρ 318 0 v.toInt64) 318 = (105, 1) := m4
    have z0 : vp_in (iN 0) 1 = True := vp_iN (by omega) (by omega)
    have z1 : (iN 0).toNatClampNeg = 0 := iN_n (by omega)
    refine ⟨K, uL9 ρ 318 0 v.toInt64, _, some (.int (iN 0)), some (.int v), ?_, e1, e2, e3⟩
    rw [b_378_1176]
    simp only [kd_mk, k1, gd_true, true_and, and_true, and_self, iN_add, v1, w1, rd_I_mk, bd_ret, vl_some, x1, s2, b_378_1184, m6, y1, k13', s3, b_378_1192, s4, b_378_1195, cm7, if_true, m4, z0, z1, uL9_at, lgc, b_378_1210]
  | inr x =>
    have hx : x ∈ [3] := hqi
    have hix : [3].idxOf x ≤ 1 := List.idxOf_le_length
    have nz : (iN ([3].idxOf x + 1) = iN 0) = False := (iN_eq (by omega) (by omega)).trans (eq_false (by omega))
    have s2 : CC (d + 41) 360 [.ref 70, .int ((xs (i + 1))), .ref 318] (I, τ) = some (.inl (some (.int (iN ([3].idxOf x + 1)))), (J, ρ)) := s2
    have s3 : CC (d + 41) 282 [.ref 308, .int ((xs (i + 1)))] (J, ρ) = some (.inl (some (.int (iN 0))), (K, ρ)) := s3
    have s4 : CC (d + 41) 208 [.ref 308] (K, ρ) = some (.inl (some (.int (iN ([3].idxOf x + 1)))), (K, ρ)) := t_208 (d := d + 41) (n := [3].idxOf x + 1) m1.1 h7
    have k13' : tK ρ 308 = (13, 0) := k13'
    have m6 : tK ρ 1 = (100, L) := m6
    refine ⟨K, ρ, _, some (.int (iN ([3].idxOf x + 1))), some (.int (iN 0)), ?_, e1, e2, e3⟩
    generalize hk : iN ([3].idxOf x + 1) = kk at *
    rw [b_378_1176]
    simp only [kd_mk, k1, gd_true, true_and, and_true, and_self, iN_add, v1, w1, rd_I_mk, bd_ret, vl_some, x1, s2, b_378_1184, m6, y1, k13', s3, b_378_1192, s4, b_378_1195, cm7, if_true, nz, if_false, b_378_1210]
theorem turn_33 (h : TI L xs I τ B C) (hB : B + 1400 ≤ 900000) (hi : i + 5 ≤ L) (hL : L ≤ 2560) : TT d L i 1211 xs I τ B := by
  intro u6 u7
  have k1 := h.2.2.2.2.2.1
  have x0 := h.2.2.2.2.2.2
  have k12 := h.1.1.2.1
  have k13 := h.2.1.1.2.1
  have x1 := x0 (i + 1) (by omega)
  obtain ⟨J, ρ, s1, hp⟩ := p_followers (d := d) h.1 (xs (i + 1))
  have hqi : qin [3] (q_wr (fun k => iN (cn (beU (s_U (g_S C)) k 8) (un (s_U (g_S C)))) - iN 1) (g_S C) (xs (i + 1))) := qi_wr
  obtain ⟨m1, m2, m3, m4, m5, m6, m7⟩ := TI_mid h hp (Sq_lw (o := 318) (q := (q_wr (fun k => iN (cn (beU (s_U (g_S C)) k 8) (un (s_U (g_S C)))) - iN 1) (g_S C) (xs (i + 1)))))
  obtain ⟨K, s3, hn⟩ := n_followers (d := d + 1) m1 (xs (i + 1))
  obtain ⟨e1, e2, e3⟩ := TI_end h (by omega) (by omega) hp (Sq_lw (o := 318) (q := (q_wr (fun k => iN (cn (beU (s_U (g_S C)) k 8) (un (s_U (g_S C)))) - iN 1) (g_S C) (xs (i + 1))))) hn
  have y1 : J 1 (i + 1) = xs (i + 1) := by rw [m7]; exact x1
  have h7 := hn.2.1
  have kr : tK ρ 318 = (105, 1) := by rw [← Sq_K (Sq_lw (o := 318) (q := (q_wr (fun k => iN (cn (beU (s_U (g_S C)) k 8) (un (s_U (g_S C)))) - iN 1) (g_S C) (xs (i + 1)))))]; exact m4
  generalize (q_wr (fun k => iN (cn (beU (s_U (g_S C)) k 8) (un (s_U (g_S C)))) - iN 1) (g_S C) (xs (i + 1))) = Q at *
  have s2 := w_361 (d := d + 40) (o := 318) (xs (i + 1)) s1 hqi k12 kr (by omega)
  have k13' := m1.1.2.1
  have v1 : vp_in (iN (i + 1)) L = True := vp_iN (by omega) (by omega)
  have w1 : (iN (i + 1)).toNatClampNeg = i + 1 := iN_n (by omega)
  cases Q with
  | inl v =>
    have s2 : CC (d + 41) 361 [.ref 70, .int ((xs (i + 1))), .ref 318] (I, τ) = some (.inl (some (.int (iN 0))), (J, uL9 ρ 318 0 v.toInt64)) := s2
    have s3 : CC (d + 41) 283 [.ref 308, .int ((xs (i + 1)))] (J, uL9 ρ 318 0 v.toInt64) = some (.inl (some (.int v)), (K, uL9 ρ 318 0 v.toInt64)) := s3
    have s4 := t_208 (d := d + 41) (n := 0) m1.1 h7
    have s4 : CC (d + 41) 208 [.ref 308] (K, uL9 ρ 318 0 v.toInt64) = some (.inl (some (.int (iN 0))), (K, uL9 ρ 318 0 v.toInt64)) := s4
    have k13' : tK (uL9 ρ 318 0 v.toInt64) 308 = (13, 0) := k13'
    have m6 : tK (uL9 ρ 318 0 v.toInt64) 1 = (100, L) := m6
    have m4 : tK (uL9 ρ 318 0 v.toInt64) 318 = (105, 1) := m4
    have z0 : vp_in (iN 0) 1 = True := vp_iN (by omega) (by omega)
    have z1 : (iN 0).toNatClampNeg = 0 := iN_n (by omega)
    refine ⟨K, uL9 ρ 318 0 v.toInt64, _, some (.int (iN 0)), some (.int v), ?_, e1, e2, e3⟩
    rw [b_378_1211]
    simp only [kd_mk, k1, gd_true, true_and, and_true, and_self, iN_add, v1, w1, rd_I_mk, bd_ret, vl_some, x1, s2, b_378_1219, m6, y1, k13', s3, b_378_1227, s4, b_378_1230, cm7, if_true, m4, z0, z1, uL9_at, lgc, b_378_1245]
  | inr x =>
    have hx : x ∈ [3] := hqi
    have hix : [3].idxOf x ≤ 1 := List.idxOf_le_length
    have nz : (iN ([3].idxOf x + 1) = iN 0) = False := (iN_eq (by omega) (by omega)).trans (eq_false (by omega))
    have s2 : CC (d + 41) 361 [.ref 70, .int ((xs (i + 1))), .ref 318] (I, τ) = some (.inl (some (.int (iN ([3].idxOf x + 1)))), (J, ρ)) := s2
    have s3 : CC (d + 41) 283 [.ref 308, .int ((xs (i + 1)))] (J, ρ) = some (.inl (some (.int (iN 0))), (K, ρ)) := s3
    have s4 : CC (d + 41) 208 [.ref 308] (K, ρ) = some (.inl (some (.int (iN ([3].idxOf x + 1)))), (K, ρ)) := t_208 (d := d + 41) (n := [3].idxOf x + 1) m1.1 h7
    have k13' : tK ρ 308 = (13, 0) := k13'
    have m6 : tK ρ 1 = (100, L) := m6
    refine ⟨K, ρ, _, some (.int (iN ([3].idxOf x + 1))), some (.int (iN 0)), ?_, e1, e2, e3⟩
    generalize hk : iN ([3].idxOf x + 1) = kk at *
    rw [b_378_1211]
    simp only [kd_mk, k1, gd_true, true_and, and_true, and_self, iN_add, v1, w1, rd_I_mk, bd_ret, vl_some, x1, s2, b_378_1219, m6, y1, k13', s3, b_378_1227, s4, b_378_1230, cm7, if_true, nz, if_false, b_378_1245]
theorem turn_34 (h : TI L xs I τ B C) (hB : B + 1400 ≤ 900000) (hi : i + 5 ≤ L) (hL : L ≤ 2560) : TT d L i 1246 xs I τ B := by
  intro u6 u7
  have k1 := h.2.2.2.2.2.1
  have x0 := h.2.2.2.2.2.2
  have k12 := h.1.1.2.1
  have k13 := h.2.1.1.2.1
  obtain ⟨J, ρ, s1, hp⟩ := p_docketValue (d := d + 1) h.1
  obtain ⟨m1, m2, m3, m4, m5, m6, m7⟩ := TI_mid h hp Sq_rf
  obtain ⟨K, s3, hn⟩ := n_docketValue (d := d + 1) m1
  obtain ⟨e1, e2, e3⟩ := TI_end h (by omega) (by omega) hp Sq_rf hn
  have k13' := m1.1.2.1
  refine ⟨K, ρ, _, u6, u7, ?_, e1, e2, e3⟩
  simp only [oO] at s1
  rw [b_378_1246]
  simp only [kd_mk, k12, gd_true, s1, bd_ret, vl_some, b_378_1248, k13', s3, b_378_1250, if_true, cm7]
theorem turn_35 (h : TI L xs I τ B C) (hB : B + 1400 ≤ 900000) (hi : i + 5 ≤ L) (hL : L ≤ 2560) : TT d L i 1253 xs I τ B := by
  intro u6 u7
  have k1 := h.2.2.2.2.2.1
  have x0 := h.2.2.2.2.2.2
  have k12 := h.1.1.2.1
  have k13 := h.2.1.1.2.1
  obtain ⟨J, ρ, s1, hp⟩ := p_docketBySets (d := d + 1) h.1
  obtain ⟨m1, m2, m3, m4, m5, m6, m7⟩ := TI_mid h hp Sq_rf
  obtain ⟨K, s3, hn⟩ := n_docketBySets (d := d + 1) m1
  obtain ⟨e1, e2, e3⟩ := TI_end h (by omega) (by omega) hp Sq_rf hn
  have k13' := m1.1.2.1
  refine ⟨K, ρ, _, u6, u7, ?_, e1, e2, e3⟩
  simp only [oO] at s1
  rw [b_378_1253]
  simp only [kd_mk, k12, gd_true, s1, bd_ret, vl_some, b_378_1255, k13', s3, b_378_1257, if_true, cm7]
theorem turn_36 (h : TI L xs I τ B C) (hB : B + 1400 ≤ 900000) (hi : i + 5 ≤ L) (hL : L ≤ 2560) : TT d L i 1260 xs I τ B := by
  intro u6 u7
  have k1 := h.2.2.2.2.2.1
  have x0 := h.2.2.2.2.2.2
  have k12 := h.1.1.2.1
  have k13 := h.2.1.1.2.1
  have x1 := x0 (i + 1) (by omega)
  obtain ⟨J, ρ, s1, hp⟩ := p_byLast (d := d) h.1 (xs (i + 1))
  have hqi : qin [3] (q_byLast (g_S C) (xs (i + 1))) := qi_byLast
  obtain ⟨m1, m2, m3, m4, m5, m6, m7⟩ := TI_mid h hp (Sq_lw (o := 318) (q := (q_byLast (g_S C) (xs (i + 1)))))
  obtain ⟨K, s3, hn⟩ := n_byLast (d := d + 1) m1 (xs (i + 1))
  obtain ⟨e1, e2, e3⟩ := TI_end h (by omega) (by omega) hp (Sq_lw (o := 318) (q := (q_byLast (g_S C) (xs (i + 1))))) hn
  have y1 : J 1 (i + 1) = xs (i + 1) := by rw [m7]; exact x1
  have h7 := hn.2.1
  have kr : tK ρ 318 = (105, 1) := by rw [← Sq_K (Sq_lw (o := 318) (q := (q_byLast (g_S C) (xs (i + 1)))))]; exact m4
  generalize (q_byLast (g_S C) (xs (i + 1))) = Q at *
  have s2 := w_362 (d := d + 40) (o := 318) (xs (i + 1)) s1 hqi k12 kr (by omega)
  have k13' := m1.1.2.1
  have v1 : vp_in (iN (i + 1)) L = True := vp_iN (by omega) (by omega)
  have w1 : (iN (i + 1)).toNatClampNeg = i + 1 := iN_n (by omega)
  cases Q with
  | inl v =>
    have s2 : CC (d + 41) 362 [.ref 70, .int ((xs (i + 1))), .ref 318] (I, τ) = some (.inl (some (.int (iN 0))), (J, uL9 ρ 318 0 v.toInt64)) := s2
    have s3 : CC (d + 41) 289 [.ref 308, .int ((xs (i + 1)))] (J, uL9 ρ 318 0 v.toInt64) = some (.inl (some (.int v)), (K, uL9 ρ 318 0 v.toInt64)) := s3
    have s4 := t_208 (d := d + 41) (n := 0) m1.1 h7
    have s4 : CC (d + 41) 208 [.ref 308] (K, uL9 ρ 318 0 v.toInt64) = some (.inl (some (.int (iN 0))), (K, uL9 ρ 318 0 v.toInt64)) := s4
    have k13' : tK (uL9 ρ 318 0 v.toInt64) 308 = (13, 0) := k13'
    have m6 : tK (uL9 ρ 318 0 v.toInt64) 1 = (100, L) := m6
    have m4 : tK (uL9 ρ 318 0 v.toInt64) 318 = (105, 1) := m4
    have z0 : vp_in (iN 0) 1 = True := vp_iN (by omega) (by omega)
    have z1 : (iN 0).toNatClampNeg = 0 := iN_n (by omega)
    refine ⟨K, uL9 ρ 318 0 v.toInt64, _, some (.int (iN 0)), some (.int v), ?_, e1, e2, e3⟩
    rw [b_378_1260]
    simp only [kd_mk, k1, gd_true, true_and, and_true, and_self, iN_add, v1, w1, rd_I_mk, bd_ret, vl_some, x1, s2, b_378_1268, m6, y1, k13', s3, b_378_1276, s4, b_378_1279, cm7, if_true, m4, z0, z1, uL9_at, lgc, b_378_1294]
  | inr x =>
    have hx : x ∈ [3] := hqi
    have hix : [3].idxOf x ≤ 1 := List.idxOf_le_length
    have nz : (iN ([3].idxOf x + 1) = iN 0) = False := (iN_eq (by omega) (by omega)).trans (eq_false (by omega))
    have s2 : CC (d + 41) 362 [.ref 70, .int ((xs (i + 1))), .ref 318] (I, τ) = some (.inl (some (.int (iN ([3].idxOf x + 1)))), (J, ρ)) := s2
    have s3 : CC (d + 41) 289 [.ref 308, .int ((xs (i + 1)))] (J, ρ) = some (.inl (some (.int (iN 0))), (K, ρ)) := s3
    have s4 : CC (d + 41) 208 [.ref 308] (K, ρ) = some (.inl (some (.int (iN ([3].idxOf x + 1)))), (K, ρ)) := t_208 (d := d + 41) (n := [3].idxOf x + 1) m1.1 h7
    have k13' : tK ρ 308 = (13, 0) := k13'
    have m6 : tK ρ 1 = (100, L) := m6
    refine ⟨K, ρ, _, some (.int (iN ([3].idxOf x + 1))), some (.int (iN 0)), ?_, e1, e2, e3⟩
    generalize hk : iN ([3].idxOf x + 1) = kk at *
    rw [b_378_1260]
    simp only [kd_mk, k1, gd_true, true_and, and_true, and_self, iN_add, v1, w1, rd_I_mk, bd_ret, vl_some, x1, s2, b_378_1268, m6, y1, k13', s3, b_378_1276, s4, b_378_1279, cm7, if_true, nz, if_false, b_378_1294]
theorem turn_37 (h : TI L xs I τ B C) (hB : B + 1400 ≤ 900000) (hi : i + 5 ≤ L) (hL : L ≤ 2560) : TT d L i 1295 xs I τ B := by
  intro u6 u7
  have k1 := h.2.2.2.2.2.1
  have x0 := h.2.2.2.2.2.2
  have k12 := h.1.1.2.1
  have k13 := h.2.1.1.2.1
  have x1 := x0 (i + 1) (by omega)
  obtain ⟨J, ρ, s1, hp⟩ := p_blocks (d := d) h.1 (xs (i + 1))
  have hqi : qin [1] (q_blocks (g_S C) (xs (i + 1))) := qi_blocks
  obtain ⟨m1, m2, m3, m4, m5, m6, m7⟩ := TI_mid h hp (Sq_lw (o := 318) (q := (q_blocks (g_S C) (xs (i + 1)))))
  obtain ⟨K, s3, hn⟩ := n_blocks (d := d + 1) m1 (xs (i + 1))
  obtain ⟨e1, e2, e3⟩ := TI_end h (by omega) (by omega) hp (Sq_lw (o := 318) (q := (q_blocks (g_S C) (xs (i + 1))))) hn
  have y1 : J 1 (i + 1) = xs (i + 1) := by rw [m7]; exact x1
  have h7 := hn.2.1
  have kr : tK ρ 318 = (105, 1) := by rw [← Sq_K (Sq_lw (o := 318) (q := (q_blocks (g_S C) (xs (i + 1)))))]; exact m4
  generalize (q_blocks (g_S C) (xs (i + 1))) = Q at *
  have s2 := w_363 (d := d + 40) (o := 318) (xs (i + 1)) s1 hqi k12 kr (by omega)
  have k13' := m1.1.2.1
  have v1 : vp_in (iN (i + 1)) L = True := vp_iN (by omega) (by omega)
  have w1 : (iN (i + 1)).toNatClampNeg = i + 1 := iN_n (by omega)
  cases Q with
  | inl v =>
    have s2 : CC (d + 41) 363 [.ref 70, .int ((xs (i + 1))), .ref 318] (I, τ) = some (.inl (some (.int (iN 0))), (J, uL9 ρ 318 0 v.toInt64)) := s2
    have s3 : CC (d + 41) 290 [.ref 308, .int ((xs (i + 1)))] (J, uL9 ρ 318 0 v.toInt64) = some (.inl (some (.int v)), (K, uL9 ρ 318 0 v.toInt64)) := s3
    have s4 := t_208 (d := d + 41) (n := 0) m1.1 h7
    have s4 : CC (d + 41) 208 [.ref 308] (K, uL9 ρ 318 0 v.toInt64) = some (.inl (some (.int (iN 0))), (K, uL9 ρ 318 0 v.toInt64)) := s4
    have k13' : tK (uL9 ρ 318 0 v.toInt64) 308 = (13, 0) := k13'
    have m6 : tK (uL9 ρ 318 0 v.toInt64) 1 = (100, L) := m6
    have m4 : tK (uL9 ρ 318 0 v.toInt64) 318 = (105, 1) := m4
    have z0 : vp_in (iN 0) 1 = True := vp_iN (by omega) (by omega)
    have z1 : (iN 0).toNatClampNeg = 0 := iN_n (by omega)
    refine ⟨K, uL9 ρ 318 0 v.toInt64, _, some (.int (iN 0)), some (.int v), ?_, e1, e2, e3⟩
    rw [b_378_1295]
    simp only [kd_mk, k1, gd_true, true_and, and_true, and_self, iN_add, v1, w1, rd_I_mk, bd_ret, vl_some, x1, s2, b_378_1303, m6, y1, k13', s3, b_378_1311, s4, b_378_1314, cm7, if_true, m4, z0, z1, uL9_at, lgc, b_378_1329]
  | inr x =>
    have hx : x ∈ [1] := hqi
    have hix : [1].idxOf x ≤ 1 := List.idxOf_le_length
    have nz : (iN ([1].idxOf x + 1) = iN 0) = False := (iN_eq (by omega) (by omega)).trans (eq_false (by omega))
    have s2 : CC (d + 41) 363 [.ref 70, .int ((xs (i + 1))), .ref 318] (I, τ) = some (.inl (some (.int (iN ([1].idxOf x + 1)))), (J, ρ)) := s2
    have s3 : CC (d + 41) 290 [.ref 308, .int ((xs (i + 1)))] (J, ρ) = some (.inl (some (.int (iN 0))), (K, ρ)) := s3
    have s4 : CC (d + 41) 208 [.ref 308] (K, ρ) = some (.inl (some (.int (iN ([1].idxOf x + 1)))), (K, ρ)) := t_208 (d := d + 41) (n := [1].idxOf x + 1) m1.1 h7
    have k13' : tK ρ 308 = (13, 0) := k13'
    have m6 : tK ρ 1 = (100, L) := m6
    refine ⟨K, ρ, _, some (.int (iN ([1].idxOf x + 1))), some (.int (iN 0)), ?_, e1, e2, e3⟩
    generalize hk : iN ([1].idxOf x + 1) = kk at *
    rw [b_378_1295]
    simp only [kd_mk, k1, gd_true, true_and, and_true, and_self, iN_add, v1, w1, rd_I_mk, bd_ret, vl_some, x1, s2, b_378_1303, m6, y1, k13', s3, b_378_1311, s4, b_378_1314, cm7, if_true, nz, if_false, b_378_1329]
theorem turn_38 (h : TI L xs I τ B C) (hB : B + 1400 ≤ 900000) (hi : i + 5 ≤ L) (hL : L ≤ 2560) : TT d L i 1330 xs I τ B := by
  intro u6 u7
  have k1 := h.2.2.2.2.2.1
  have x0 := h.2.2.2.2.2.2
  have k12 := h.1.1.2.1
  have k13 := h.2.1.1.2.1
  have x1 := x0 (i + 1) (by omega)
  obtain ⟨J, ρ, s1, hp⟩ := p_fewest (d := d) h.1 (xs (i + 1))
  have hqi : qin [1, 4] (q_fewest (g_S C) (xs (i + 1))) := qi_fewest
  obtain ⟨m1, m2, m3, m4, m5, m6, m7⟩ := TI_mid h hp (Sq_lw (o := 318) (q := (q_fewest (g_S C) (xs (i + 1)))))
  obtain ⟨K, s3, hn⟩ := n_fewest (d := d + 1) m1 (xs (i + 1))
  obtain ⟨e1, e2, e3⟩ := TI_end h (by omega) (by omega) hp (Sq_lw (o := 318) (q := (q_fewest (g_S C) (xs (i + 1))))) hn
  have y1 : J 1 (i + 1) = xs (i + 1) := by rw [m7]; exact x1
  have h7 := hn.2.1
  have kr : tK ρ 318 = (105, 1) := by rw [← Sq_K (Sq_lw (o := 318) (q := (q_fewest (g_S C) (xs (i + 1)))))]; exact m4
  generalize (q_fewest (g_S C) (xs (i + 1))) = Q at *
  have s2 := w_364 (d := d + 40) (o := 318) (xs (i + 1)) s1 hqi k12 kr (by omega)
  have k13' := m1.1.2.1
  have v1 : vp_in (iN (i + 1)) L = True := vp_iN (by omega) (by omega)
  have w1 : (iN (i + 1)).toNatClampNeg = i + 1 := iN_n (by omega)
  cases Q with
  | inl v =>
    have s2 : CC (d + 41) 364 [.ref 70, .int ((xs (i + 1))), .ref 318] (I, τ) = some (.inl (some (.int (iN 0))), (J, uL9 ρ 318 0 v.toInt64)) := s2
    have s3 : CC (d + 41) 291 [.ref 308, .int ((xs (i + 1)))] (J, uL9 ρ 318 0 v.toInt64) = some (.inl (some (.int v)), (K, uL9 ρ 318 0 v.toInt64)) := s3
    have s4 := t_208 (d := d + 41) (n := 0) m1.1 h7
    have s4 : CC (d + 41) 208 [.ref 308] (K, uL9 ρ 318 0 v.toInt64) = some (.inl (some (.int (iN 0))), (K, uL9 ρ 318 0 v.toInt64)) := s4
    have k13' : tK (uL9 ρ 318 0 v.toInt64) 308 = (13, 0) := k13'
    have m6 : tK (uL9 ρ 318 0 v.toInt64) 1 = (100, L) := m6
    have m4 : tK (uL9 ρ 318 0 v.toInt64) 318 = (105, 1) := m4
    have z0 : vp_in (iN 0) 1 = True := vp_iN (by omega) (by omega)
    have z1 : (iN 0).toNatClampNeg = 0 := iN_n (by omega)
    refine ⟨K, uL9 ρ 318 0 v.toInt64, _, some (.int (iN 0)), some (.int v), ?_, e1, e2, e3⟩
    rw [b_378_1330]
    simp only [kd_mk, k1, gd_true, true_and, and_true, and_self, iN_add, v1, w1, rd_I_mk, bd_ret, vl_some, x1, s2, b_378_1338, m6, y1, k13', s3, b_378_1346, s4, b_378_1349, cm7, if_true, m4, z0, z1, uL9_at, lgc, b_378_1364]
  | inr x =>
    have hx : x ∈ [1, 4] := hqi
    have hix : [1, 4].idxOf x ≤ 2 := List.idxOf_le_length
    have nz : (iN ([1, 4].idxOf x + 1) = iN 0) = False := (iN_eq (by omega) (by omega)).trans (eq_false (by omega))
    have s2 : CC (d + 41) 364 [.ref 70, .int ((xs (i + 1))), .ref 318] (I, τ) = some (.inl (some (.int (iN ([1, 4].idxOf x + 1)))), (J, ρ)) := s2
    have s3 : CC (d + 41) 291 [.ref 308, .int ((xs (i + 1)))] (J, ρ) = some (.inl (some (.int (iN 0))), (K, ρ)) := s3
    have s4 : CC (d + 41) 208 [.ref 308] (K, ρ) = some (.inl (some (.int (iN ([1, 4].idxOf x + 1)))), (K, ρ)) := t_208 (d := d + 41) (n := [1, 4].idxOf x + 1) m1.1 h7
    have k13' : tK ρ 308 = (13, 0) := k13'
    have m6 : tK ρ 1 = (100, L) := m6
    refine ⟨K, ρ, _, some (.int (iN ([1, 4].idxOf x + 1))), some (.int (iN 0)), ?_, e1, e2, e3⟩
    generalize hk : iN ([1, 4].idxOf x + 1) = kk at *
    rw [b_378_1330]
    simp only [kd_mk, k1, gd_true, true_and, and_true, and_self, iN_add, v1, w1, rd_I_mk, bd_ret, vl_some, x1, s2, b_378_1338, m6, y1, k13', s3, b_378_1346, s4, b_378_1349, cm7, if_true, nz, if_false, b_378_1364]
theorem turn_39 (h : TI L xs I τ B C) (hB : B + 1400 ≤ 900000) (hi : i + 5 ≤ L) (hL : L ≤ 2560) : TT d L i 1365 xs I τ B := by
  intro u6 u7
  have k1 := h.2.2.2.2.2.1
  have x0 := h.2.2.2.2.2.2
  have k12 := h.1.1.2.1
  have k13 := h.2.1.1.2.1
  have x1 := x0 (i + 1) (by omega)
  obtain ⟨J, ρ, s1, hp⟩ := p_fewestBySearch (d := d) h.1 (xs (i + 1))
  have hqi : qin [1, 4] (q_fewest (g_S C) (xs (i + 1))) := qi_fewest
  obtain ⟨m1, m2, m3, m4, m5, m6, m7⟩ := TI_mid h hp (Sq_lw (o := 318) (q := (q_fewest (g_S C) (xs (i + 1)))))
  obtain ⟨K, s3, hn⟩ := n_fewestBySearch (d := d + 1) m1 (xs (i + 1))
  obtain ⟨e1, e2, e3⟩ := TI_end h (by omega) (by omega) hp (Sq_lw (o := 318) (q := (q_fewest (g_S C) (xs (i + 1))))) hn
  have y1 : J 1 (i + 1) = xs (i + 1) := by rw [m7]; exact x1
  have h7 := hn.2.1
  have kr : tK ρ 318 = (105, 1) := by rw [← Sq_K (Sq_lw (o := 318) (q := (q_fewest (g_S C) (xs (i + 1)))))]; exact m4
  generalize (q_fewest (g_S C) (xs (i + 1))) = Q at *
  have s2 := w_365 (d := d + 40) (o := 318) (xs (i + 1)) s1 hqi k12 kr (by omega)
  have k13' := m1.1.2.1
  have v1 : vp_in (iN (i + 1)) L = True := vp_iN (by omega) (by omega)
  have w1 : (iN (i + 1)).toNatClampNeg = i + 1 := iN_n (by omega)
  cases Q with
  | inl v =>
    have s2 : CC (d + 41) 365 [.ref 70, .int ((xs (i + 1))), .ref 318] (I, τ) = some (.inl (some (.int (iN 0))), (J, uL9 ρ 318 0 v.toInt64)) := s2
    have s3 : CC (d + 41) 292 [.ref 308, .int ((xs (i + 1)))] (J, uL9 ρ 318 0 v.toInt64) = some (.inl (some (.int v)), (K, uL9 ρ 318 0 v.toInt64)) := s3
    have s4 := t_208 (d := d + 41) (n := 0) m1.1 h7
    have s4 : CC (d + 41) 208 [.ref 308] (K, uL9 ρ 318 0 v.toInt64) = some (.inl (some (.int (iN 0))), (K, uL9 ρ 318 0 v.toInt64)) := s4
    have k13' : tK (uL9 ρ 318 0 v.toInt64) 308 = (13, 0) := k13'
    have m6 : tK (uL9 ρ 318 0 v.toInt64) 1 = (100, L) := m6
    have m4 : tK (uL9 ρ 318 0 v.toInt64) 318 = (105, 1) := m4
    have z0 : vp_in (iN 0) 1 = True := vp_iN (by omega) (by omega)
    have z1 : (iN 0).toNatClampNeg = 0 := iN_n (by omega)
    refine ⟨K, uL9 ρ 318 0 v.toInt64, _, some (.int (iN 0)), some (.int v), ?_, e1, e2, e3⟩
    rw [b_378_1365]
    simp only [kd_mk, k1, gd_true, true_and, and_true, and_self, iN_add, v1, w1, rd_I_mk, bd_ret, vl_some, x1, s2, b_378_1373, m6, y1, k13', s3, b_378_1381, s4, b_378_1384, cm7, if_true, m4, z0, z1, uL9_at, lgc, b_378_1399]
  | inr x =>
    have hx : x ∈ [1, 4] := hqi
    have hix : [1, 4].idxOf x ≤ 2 := List.idxOf_le_length
    have nz : (iN ([1, 4].idxOf x + 1) = iN 0) = False := (iN_eq (by omega) (by omega)).trans (eq_false (by omega))
    have s2 : CC (d + 41) 365 [.ref 70, .int ((xs (i + 1))), .ref 318] (I, τ) = some (.inl (some (.int (iN ([1, 4].idxOf x + 1)))), (J, ρ)) := s2
    have s3 : CC (d + 41) 292 [.ref 308, .int ((xs (i + 1)))] (J, ρ) = some (.inl (some (.int (iN 0))), (K, ρ)) := s3
    have s4 : CC (d + 41) 208 [.ref 308] (K, ρ) = some (.inl (some (.int (iN ([1, 4].idxOf x + 1)))), (K, ρ)) := t_208 (d := d + 41) (n := [1, 4].idxOf x + 1) m1.1 h7
    have k13' : tK ρ 308 = (13, 0) := k13'
    have m6 : tK ρ 1 = (100, L) := m6
    refine ⟨K, ρ, _, some (.int (iN ([1, 4].idxOf x + 1))), some (.int (iN 0)), ?_, e1, e2, e3⟩
    generalize hk : iN ([1, 4].idxOf x + 1) = kk at *
    rw [b_378_1365]
    simp only [kd_mk, k1, gd_true, true_and, and_true, and_self, iN_add, v1, w1, rd_I_mk, bd_ret, vl_some, x1, s2, b_378_1373, m6, y1, k13', s3, b_378_1381, s4, b_378_1384, cm7, if_true, nz, if_false, b_378_1399]
end TN
