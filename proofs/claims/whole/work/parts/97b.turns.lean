/-! THE LAW: its turns -/
section TN
variable {d L i : Nat} {xs : Nat → Int32} {I : qq_I} {τ : qq_R} {B : Nat} {C : sC}
theorem turn_10 (h : TI L xs I τ B C) (hB : B + 1400 ≤ 900000) (hi : i + 5 ≤ L) (hL : L ≤ 2560) : TT d L i 458 xs I τ B := by
  intro u6 u7
  have k1 := h.2.2.2.2.2.1
  have x0 := h.2.2.2.2.2.2
  have k12 := h.1.1.2.1
  have k13 := h.2.1.1.2.1
  obtain ⟨J, ρ, s1, hp⟩ := p_pedestalCount (d := d + 1) h.1
  obtain ⟨m1, m2, m3, m4, m5, m6, m7⟩ := TI_mid h hp Sq_rf
  obtain ⟨K, s3, hn⟩ := n_pedestalCount (d := d + 1) m1
  obtain ⟨e1, e2, e3⟩ := TI_end h (by omega) (by omega) hp Sq_rf hn
  have k13' := m1.1.2.1
  refine ⟨K, ρ, _, u6, u7, ?_, e1, e2, e3⟩
  simp only [oO] at s1
  rw [b_378_458]
  simp only [kd_mk, k12, gd_true, s1, bd_ret, vl_some, b_378_460, k13', s3, b_378_462, if_true, cm7]
theorem turn_11 (h : TI L xs I τ B C) (hB : B + 1400 ≤ 900000) (hi : i + 5 ≤ L) (hL : L ≤ 2560) : TT d L i 465 xs I τ B := by
  intro u6 u7
  have k1 := h.2.2.2.2.2.1
  have x0 := h.2.2.2.2.2.2
  have k12 := h.1.1.2.1
  have k13 := h.2.1.1.2.1
  have x1 := x0 (i + 1) (by omega)
  obtain ⟨J, ρ, s1, hp⟩ := p_arrow (d := d) h.1 (xs (i + 1))
  have hqi : qin [0] (q_arrow (g_S C) (xs (i + 1))) := qi_arrow
  obtain ⟨m1, m2, m3, m4, m5, m6, m7⟩ := TI_mid h hp (Sq_lw (o := 318) (q := (q_arrow (g_S C) (xs (i + 1)))))
  obtain ⟨K, s3, hn⟩ := n_arrow (d := d + 1) m1 (xs (i + 1))
  obtain ⟨e1, e2, e3⟩ := TI_end h (by omega) (by omega) hp (Sq_lw (o := 318) (q := (q_arrow (g_S C) (xs (i + 1))))) hn
  have y1 : J 1 (i + 1) = xs (i + 1) := by rw [m7]; exact x1
  have h7 := hn.2.1
  have kr : tK ρ 318 = (105, 1) := by rw [← Sq_K (Sq_lw (o := 318) (q := (q_arrow (g_S C) (xs (i + 1)))))]; exact m4
  generalize (q_arrow (g_S C) (xs (i + 1))) = Q at *
  have s2 := w_341 (d := d + 40) (o := 318) (xs (i + 1)) s1 hqi k12 kr (by omega)
  have k13' := m1.1.2.1
  have v1 : vp_in (iN (i + 1)) L = True := vp_iN (by omega) (by omega)
  have w1 : (iN (i + 1)).toNatClampNeg = i + 1 := iN_n (by omega)
  cases Q with
  | inl v =>
    have s2 : CC (d + 41) 341 [.ref 70, .int ((xs (i + 1))), .ref 318] (I, τ) = some (.inl (some (.int (iN 0))), (J, uL9 ρ 318 0 v.toInt64)) := s2
    have s3 : CC (d + 41) 257 [.ref 308, .int ((xs (i + 1)))] (J, uL9 ρ 318 0 v.toInt64) = some (.inl (some (.int v)), (K, uL9 ρ 318 0 v.toInt64)) := s3
    have s4 := t_208 (d := d + 41) (n := 0) m1.1 h7
    have s4 : CC (d + 41) 208 [.ref 308] (K, uL9 ρ 318 0 v.toInt64) = some (.inl (some (.int (iN 0))), (K, uL9 ρ 318 0 v.toInt64)) := s4
    have k13' : tK (uL9 ρ 318 0 v.toInt64) 308 = (13, 0) := k13'
    have m6 : tK (uL9 ρ 318 0 v.toInt64) 1 = (100, L) := m6
    have m4 : tK (uL9 ρ 318 0 v.toInt64) 318 = (105, 1) := m4
    have z0 : vp_in (iN 0) 1 = True := vp_iN (by omega) (by omega)
    have z1 : (iN 0).toNatClampNeg = 0 := iN_n (by omega)
    refine ⟨K, uL9 ρ 318 0 v.toInt64, _, some (.int (iN 0)), some (.int v), ?_, e1, e2, e3⟩
    rw [b_378_465]
    simp only [kd_mk, k1, gd_true, true_and, and_true, and_self, iN_add, v1, w1, rd_I_mk, bd_ret, vl_some, x1, s2, b_378_473, m6, y1, k13', s3, b_378_481, s4, b_378_484, cm7, if_true, m4, z0, z1, uL9_at, lgc, b_378_499]
  | inr x =>
    have hx : x ∈ [0] := hqi
    have hix : [0].idxOf x ≤ 1 := List.idxOf_le_length
    have nz : (iN ([0].idxOf x + 1) = iN 0) = False := (iN_eq (by omega) (by omega)).trans (eq_false (by omega))
    have s2 : CC (d + 41) 341 [.ref 70, .int ((xs (i + 1))), .ref 318] (I, τ) = some (.inl (some (.int (iN ([0].idxOf x + 1)))), (J, ρ)) := s2
    have s3 : CC (d + 41) 257 [.ref 308, .int ((xs (i + 1)))] (J, ρ) = some (.inl (some (.int (iN 0))), (K, ρ)) := s3
    have s4 : CC (d + 41) 208 [.ref 308] (K, ρ) = some (.inl (some (.int (iN ([0].idxOf x + 1)))), (K, ρ)) := t_208 (d := d + 41) (n := [0].idxOf x + 1) m1.1 h7
    have k13' : tK ρ 308 = (13, 0) := k13'
    have m6 : tK ρ 1 = (100, L) := m6
    refine ⟨K, ρ, _, some (.int (iN ([0].idxOf x + 1))), some (.int (iN 0)), ?_, e1, e2, e3⟩
    generalize hk : iN ([0].idxOf x + 1) = kk at *
    rw [b_378_465]
    simp only [kd_mk, k1, gd_true, true_and, and_true, and_self, iN_add, v1, w1, rd_I_mk, bd_ret, vl_some, x1, s2, b_378_473, m6, y1, k13', s3, b_378_481, s4, b_378_484, cm7, if_true, nz, if_false, b_378_499]
theorem turn_12 (h : TI L xs I τ B C) (hB : B + 1400 ≤ 900000) (hi : i + 5 ≤ L) (hL : L ≤ 2560) : TT d L i 500 xs I τ B := by
  intro u6 u7
  have k1 := h.2.2.2.2.2.1
  have x0 := h.2.2.2.2.2.2
  have k12 := h.1.1.2.1
  have k13 := h.2.1.1.2.1
  have x1 := x0 (i + 1) (by omega)
  obtain ⟨J, ρ, s1, hp⟩ := p_isFree (d := d) h.1 (xs (i + 1))
  have hqi : qin [0] (q_isFree (g_S C) (xs (i + 1))) := qi_isFree
  obtain ⟨m1, m2, m3, m4, m5, m6, m7⟩ := TI_mid h hp (Sq_lw (o := 318) (q := (q_isFree (g_S C) (xs (i + 1)))))
  obtain ⟨K, s3, hn⟩ := n_isFree (d := d + 1) m1 (xs (i + 1))
  have hqv : ∀ v, (q_isFree (g_S C) (xs (i + 1))) = .inl v → v = iN 0 ∨ v = iN 1 := qv_isFree
  obtain ⟨e1, e2, e3⟩ := TI_end h (by omega) (by omega) hp (Sq_lw (o := 318) (q := (q_isFree (g_S C) (xs (i + 1))))) hn
  have y1 : J 1 (i + 1) = xs (i + 1) := by rw [m7]; exact x1
  have h7 := hn.2.1
  have kr : tK ρ 318 = (105, 1) := by rw [← Sq_K (Sq_lw (o := 318) (q := (q_isFree (g_S C) (xs (i + 1)))))]; exact m4
  generalize (q_isFree (g_S C) (xs (i + 1))) = Q at *
  have s2 := w_342 (d := d + 40) (o := 318) (xs (i + 1)) s1 hqi hqv k12 kr (by omega)
  have k13' := m1.1.2.1
  have v1 : vp_in (iN (i + 1)) L = True := vp_iN (by omega) (by omega)
  have w1 : (iN (i + 1)).toNatClampNeg = i + 1 := iN_n (by omega)
  cases Q with
  | inl v =>
    have s2 : CC (d + 41) 342 [.ref 70, .int ((xs (i + 1))), .ref 318] (I, τ) = some (.inl (some (.int (iN 0))), (J, uL9 ρ 318 0 v.toInt64)) := s2
    have s3 : CC (d + 41) 258 [.ref 308, .int ((xs (i + 1)))] (J, uL9 ρ 318 0 v.toInt64) = some (.inl (some (.int v)), (K, uL9 ρ 318 0 v.toInt64)) := s3
    have s4 := t_208 (d := d + 41) (n := 0) m1.1 h7
    have s4 : CC (d + 41) 208 [.ref 308] (K, uL9 ρ 318 0 v.toInt64) = some (.inl (some (.int (iN 0))), (K, uL9 ρ 318 0 v.toInt64)) := s4
    have k13' : tK (uL9 ρ 318 0 v.toInt64) 308 = (13, 0) := k13'
    have m6 : tK (uL9 ρ 318 0 v.toInt64) 1 = (100, L) := m6
    have m4 : tK (uL9 ρ 318 0 v.toInt64) 318 = (105, 1) := m4
    have z0 : vp_in (iN 0) 1 = True := vp_iN (by omega) (by omega)
    have z1 : (iN 0).toNatClampNeg = 0 := iN_n (by omega)
    rcases hqv v rfl with rfl | rfl
    · refine ⟨K, uL9 ρ 318 0 (iN 0).toInt64, _, some (.int (iN 0)), some (.int (iN 0)), ?_, e1, e2, e3⟩
      have lr : rd_L (K, uL9 ρ 318 0 (iN 0).toInt64) 318 0 = Int64.ofNat 0 := (uL9_at).trans l01.1
      rw [b_378_500]
      simp only [kd_mk, k1, gd_true, true_and, and_true, and_self, iN_add, v1, w1, rd_I_mk, bd_ret, vl_some, x1, s2, b_378_508, m6, y1, k13', s3, b_378_516, s4, b_378_519, cm7, if_true, m4, z0, z1, n10i, if_false, lr, b_378_533, lgc, b_378_537]
    · refine ⟨K, uL9 ρ 318 0 (iN 1).toInt64, _, some (.int (iN 0)), some (.int (iN 1)), ?_, e1, e2, e3⟩
      have lr : rd_L (K, uL9 ρ 318 0 (iN 1).toInt64) 318 0 = Int64.ofNat 1 := (uL9_at).trans l01.2
      rw [b_378_500]
      simp only [kd_mk, k1, gd_true, true_and, and_true, and_self, iN_add, v1, w1, rd_I_mk, bd_ret, vl_some, x1, s2, b_378_508, m6, y1, k13', s3, b_378_516, s4, b_378_519, cm7, if_true, m4, z0, z1, n10i, if_false, lr, b_378_533, lgc, b_378_537]
  | inr x =>
    have hx : x ∈ [0] := hqi
    have hix : [0].idxOf x ≤ 1 := List.idxOf_le_length
    have nz : (iN ([0].idxOf x + 1) = iN 0) = False := (iN_eq (by omega) (by omega)).trans (eq_false (by omega))
    have s2 : CC (d + 41) 342 [.ref 70, .int ((xs (i + 1))), .ref 318] (I, τ) = some (.inl (some (.int (iN ([0].idxOf x + 1)))), (J, ρ)) := s2
    have s3 : CC (d + 41) 258 [.ref 308, .int ((xs (i + 1)))] (J, ρ) = some (.inl (some (.int (iN 0))), (K, ρ)) := s3
    have s4 : CC (d + 41) 208 [.ref 308] (K, ρ) = some (.inl (some (.int (iN ([0].idxOf x + 1)))), (K, ρ)) := t_208 (d := d + 41) (n := [0].idxOf x + 1) m1.1 h7
    have k13' : tK ρ 308 = (13, 0) := k13'
    have m6 : tK ρ 1 = (100, L) := m6
    refine ⟨K, ρ, _, some (.int (iN ([0].idxOf x + 1))), some (.int (iN 0)), ?_, e1, e2, e3⟩
    generalize hk : iN ([0].idxOf x + 1) = kk at *
    rw [b_378_500]
    simp only [kd_mk, k1, gd_true, true_and, and_true, and_self, iN_add, v1, w1, rd_I_mk, bd_ret, vl_some, x1, s2, b_378_508, m6, y1, k13', s3, b_378_516, s4, b_378_519, cm7, if_true, nz, if_false, b_378_537]
theorem turn_13 (h : TI L xs I τ B C) (hB : B + 1400 ≤ 900000) (hi : i + 5 ≤ L) (hL : L ≤ 2560) : TT d L i 538 xs I τ B := by
  intro u6 u7
  have k1 := h.2.2.2.2.2.1
  have x0 := h.2.2.2.2.2.2
  have k12 := h.1.1.2.1
  have k13 := h.2.1.1.2.1
  have x1 := x0 (i + 1) (by omega)
  obtain ⟨J, ρ, s1, hp⟩ := p_statueOn (d := d) h.1 (xs (i + 1))
  have hqi : qin [0, 3] (q_statueOn (g_S C) (xs (i + 1))) := qi_statueOn
  obtain ⟨m1, m2, m3, m4, m5, m6, m7⟩ := TI_mid h hp (Sq_lw (o := 318) (q := (q_statueOn (g_S C) (xs (i + 1)))))
  obtain ⟨K, s3, hn⟩ := n_statueOn (d := d + 1) m1 (xs (i + 1))
  obtain ⟨e1, e2, e3⟩ := TI_end h (by omega) (by omega) hp (Sq_lw (o := 318) (q := (q_statueOn (g_S C) (xs (i + 1))))) hn
  have y1 : J 1 (i + 1) = xs (i + 1) := by rw [m7]; exact x1
  have h7 := hn.2.1
  have kr : tK ρ 318 = (105, 1) := by rw [← Sq_K (Sq_lw (o := 318) (q := (q_statueOn (g_S C) (xs (i + 1)))))]; exact m4
  generalize (q_statueOn (g_S C) (xs (i + 1))) = Q at *
  have s2 := w_343 (d := d + 40) (o := 318) (xs (i + 1)) s1 hqi k12 kr (by omega)
  have k13' := m1.1.2.1
  have v1 : vp_in (iN (i + 1)) L = True := vp_iN (by omega) (by omega)
  have w1 : (iN (i + 1)).toNatClampNeg = i + 1 := iN_n (by omega)
  cases Q with
  | inl v =>
    have s2 : CC (d + 41) 343 [.ref 70, .int ((xs (i + 1))), .ref 318] (I, τ) = some (.inl (some (.int (iN 0))), (J, uL9 ρ 318 0 v.toInt64)) := s2
    have s3 : CC (d + 41) 259 [.ref 308, .int ((xs (i + 1)))] (J, uL9 ρ 318 0 v.toInt64) = some (.inl (some (.int v)), (K, uL9 ρ 318 0 v.toInt64)) := s3
    have s4 := t_208 (d := d + 41) (n := 0) m1.1 h7
    have s4 : CC (d + 41) 208 [.ref 308] (K, uL9 ρ 318 0 v.toInt64) = some (.inl (some (.int (iN 0))), (K, uL9 ρ 318 0 v.toInt64)) := s4
    have k13' : tK (uL9 ρ 318 0 v.toInt64) 308 = (13, 0) := k13'
    have m6 : tK (uL9 ρ 318 0 v.toInt64) 1 = (100, L) := m6
    have m4 : tK (uL9 ρ 318 0 v.toInt64) 318 = (105, 1) := m4
    have z0 : vp_in (iN 0) 1 = True := vp_iN (by omega) (by omega)
    have z1 : (iN 0).toNatClampNeg = 0 := iN_n (by omega)
    refine ⟨K, uL9 ρ 318 0 v.toInt64, _, some (.int (iN 0)), some (.int v), ?_, e1, e2, e3⟩
    rw [b_378_538]
    simp only [kd_mk, k1, gd_true, true_and, and_true, and_self, iN_add, v1, w1, rd_I_mk, bd_ret, vl_some, x1, s2, b_378_546, m6, y1, k13', s3, b_378_554, s4, b_378_557, cm7, if_true, m4, z0, z1, uL9_at, lgc, b_378_572]
  | inr x =>
    have hx : x ∈ [0, 3] := hqi
    have hix : [0, 3].idxOf x ≤ 2 := List.idxOf_le_length
    have nz : (iN ([0, 3].idxOf x + 1) = iN 0) = False := (iN_eq (by omega) (by omega)).trans (eq_false (by omega))
    have s2 : CC (d + 41) 343 [.ref 70, .int ((xs (i + 1))), .ref 318] (I, τ) = some (.inl (some (.int (iN ([0, 3].idxOf x + 1)))), (J, ρ)) := s2
    have s3 : CC (d + 41) 259 [.ref 308, .int ((xs (i + 1)))] (J, ρ) = some (.inl (some (.int (iN 0))), (K, ρ)) := s3
    have s4 : CC (d + 41) 208 [.ref 308] (K, ρ) = some (.inl (some (.int (iN ([0, 3].idxOf x + 1)))), (K, ρ)) := t_208 (d := d + 41) (n := [0, 3].idxOf x + 1) m1.1 h7
    have k13' : tK ρ 308 = (13, 0) := k13'
    have m6 : tK ρ 1 = (100, L) := m6
    refine ⟨K, ρ, _, some (.int (iN ([0, 3].idxOf x + 1))), some (.int (iN 0)), ?_, e1, e2, e3⟩
    generalize hk : iN ([0, 3].idxOf x + 1) = kk at *
    rw [b_378_538]
    simp only [kd_mk, k1, gd_true, true_and, and_true, and_self, iN_add, v1, w1, rd_I_mk, bd_ret, vl_some, x1, s2, b_378_546, m6, y1, k13', s3, b_378_554, s4, b_378_557, cm7, if_true, nz, if_false, b_378_572]
theorem turn_14 (h : TI L xs I τ B C) (hB : B + 1400 ≤ 900000) (hi : i + 5 ≤ L) (hL : L ≤ 2560) : TT d L i 573 xs I τ B := by
  intro u6 u7
  have k1 := h.2.2.2.2.2.1
  have x0 := h.2.2.2.2.2.2
  have k12 := h.1.1.2.1
  have k13 := h.2.1.1.2.1
  have x1 := x0 (i + 1) (by omega)
  have x2 := x0 (i + 2) (by omega)
  obtain ⟨J, ρ, s1, hp⟩ := p_arrowAfter (d := d) h.1 (xs (i + 1)) (xs (i + 2))
  have hqi : qin [0, 1] (q_after (g_S C) (xs (i + 1)) (xs (i + 2))) := qi_after
  obtain ⟨m1, m2, m3, m4, m5, m6, m7⟩ := TI_mid h hp (Sq_lw (o := 318) (q := (q_after (g_S C) (xs (i + 1)) (xs (i + 2)))))
  obtain ⟨K, s3, hn⟩ := n_after (d := d + 1) m1 (xs (i + 1)) (xs (i + 2))
  obtain ⟨e1, e2, e3⟩ := TI_end h (by omega) (by omega) hp (Sq_lw (o := 318) (q := (q_after (g_S C) (xs (i + 1)) (xs (i + 2))))) hn
  have y1 : J 1 (i + 1) = xs (i + 1) := by rw [m7]; exact x1
  have y2 : J 1 (i + 2) = xs (i + 2) := by rw [m7]; exact x2
  have h7 := hn.2.1
  have kr : tK ρ 318 = (105, 1) := by rw [← Sq_K (Sq_lw (o := 318) (q := (q_after (g_S C) (xs (i + 1)) (xs (i + 2)))))]; exact m4
  generalize (q_after (g_S C) (xs (i + 1)) (xs (i + 2))) = Q at *
  have s2 := w_344 (d := d + 40) (o := 318) (xs (i + 1)) (xs (i + 2)) s1 hqi k12 kr (by omega)
  have k13' := m1.1.2.1
  have v1 : vp_in (iN (i + 1)) L = True := vp_iN (by omega) (by omega)
  have w1 : (iN (i + 1)).toNatClampNeg = i + 1 := iN_n (by omega)
  have v2 : vp_in (iN (i + 2)) L = True := vp_iN (by omega) (by omega)
  have w2 : (iN (i + 2)).toNatClampNeg = i + 2 := iN_n (by omega)
  cases Q with
  | inl v =>
    have s2 : CC (d + 41) 344 [.ref 70, .int ((xs (i + 1))), .int ((xs (i + 2))), .ref 318] (I, τ) = some (.inl (some (.int (iN 0))), (J, uL9 ρ 318 0 v.toInt64)) := s2
    have s3 : CC (d + 41) 261 [.ref 308, .int ((xs (i + 1))), .int ((xs (i + 2)))] (J, uL9 ρ 318 0 v.toInt64) = some (.inl (some (.int v)), (K, uL9 ρ 318 0 v.toInt64)) := s3
    have s4 := t_208 (d := d + 41) (n := 0) m1.1 h7
    have s4 : CC (d + 41) 208 [.ref 308] (K, uL9 ρ 318 0 v.toInt64) = some (.inl (some (.int (iN 0))), (K, uL9 ρ 318 0 v.toInt64)) := s4
    have k13' : tK (uL9 ρ 318 0 v.toInt64) 308 = (13, 0) := k13'
    have m6 : tK (uL9 ρ 318 0 v.toInt64) 1 = (100, L) := m6
    have m4 : tK (uL9 ρ 318 0 v.toInt64) 318 = (105, 1) := m4
    have z0 : vp_in (iN 0) 1 = True := vp_iN (by omega) (by omega)
    have z1 : (iN 0).toNatClampNeg = 0 := iN_n (by omega)
    refine ⟨K, uL9 ρ 318 0 v.toInt64, _, some (.int (iN 0)), some (.int v), ?_, e1, e2, e3⟩
    rw [b_378_573]
    simp only [kd_mk, k1, gd_true, true_and, and_true, and_self, iN_add, v1, w1, v2, w2, rd_I_mk, bd_ret, vl_some, x1, x2, s2, b_378_586, m6, y1, y2, k13', s3, b_378_599, s4, b_378_602, cm7, if_true, m4, z0, z1, uL9_at, lgc, b_378_617]
  | inr x =>
    have hx : x ∈ [0, 1] := hqi
    have hix : [0, 1].idxOf x ≤ 2 := List.idxOf_le_length
    have nz : (iN ([0, 1].idxOf x + 1) = iN 0) = False := (iN_eq (by omega) (by omega)).trans (eq_false (by omega))
    have s2 : CC (d + 41) 344 [.ref 70, .int ((xs (i + 1))), .int ((xs (i + 2))), .ref 318] (I, τ) = some (.inl (some (.int (iN ([0, 1].idxOf x + 1)))), (J, ρ)) := s2
    have s3 : CC (d + 41) 261 [.ref 308, .int ((xs (i + 1))), .int ((xs (i + 2)))] (J, ρ) = some (.inl (some (.int (iN 0))), (K, ρ)) := s3
    have s4 : CC (d + 41) 208 [.ref 308] (K, ρ) = some (.inl (some (.int (iN ([0, 1].idxOf x + 1)))), (K, ρ)) := t_208 (d := d + 41) (n := [0, 1].idxOf x + 1) m1.1 h7
    have k13' : tK ρ 308 = (13, 0) := k13'
    have m6 : tK ρ 1 = (100, L) := m6
    refine ⟨K, ρ, _, some (.int (iN ([0, 1].idxOf x + 1))), some (.int (iN 0)), ?_, e1, e2, e3⟩
    generalize hk : iN ([0, 1].idxOf x + 1) = kk at *
    rw [b_378_573]
    simp only [kd_mk, k1, gd_true, true_and, and_true, and_self, iN_add, v1, w1, v2, w2, rd_I_mk, bd_ret, vl_some, x1, x2, s2, b_378_586, m6, y1, y2, k13', s3, b_378_599, s4, b_378_602, cm7, if_true, nz, if_false, b_378_617]
theorem turn_15 (h : TI L xs I τ B C) (hB : B + 1400 ≤ 900000) (hi : i + 5 ≤ L) (hL : L ≤ 2560) : TT d L i 618 xs I τ B := by
  intro u6 u7
  have k1 := h.2.2.2.2.2.1
  have x0 := h.2.2.2.2.2.2
  have k12 := h.1.1.2.1
  have k13 := h.2.1.1.2.1
  have x1 := x0 (i + 1) (by omega)
  have x2 := x0 (i + 2) (by omega)
  obtain ⟨J, ρ, s1, hp⟩ := p_byDoubling (d := d) h.1 (xs (i + 1)) (xs (i + 2))
  have hqi : qin [0, 1] (q_after (g_S C) (xs (i + 1)) (xs (i + 2))) := qi_after
  obtain ⟨m1, m2, m3, m4, m5, m6, m7⟩ := TI_mid h hp (Sq_lw (o := 318) (q := (q_after (g_S C) (xs (i + 1)) (xs (i + 2)))))
  obtain ⟨K, s3, hn⟩ := n_byDoubling (d := d + 1) m1 (xs (i + 1)) (xs (i + 2))
  obtain ⟨e1, e2, e3⟩ := TI_end h (by omega) (by omega) hp (Sq_lw (o := 318) (q := (q_after (g_S C) (xs (i + 1)) (xs (i + 2))))) hn
  have y1 : J 1 (i + 1) = xs (i + 1) := by rw [m7]; exact x1
  have y2 : J 1 (i + 2) = xs (i + 2) := by rw [m7]; exact x2
  have h7 := hn.2.1
  have kr : tK ρ 318 = (105, 1) := by rw [← Sq_K (Sq_lw (o := 318) (q := (q_after (g_S C) (xs (i + 1)) (xs (i + 2)))))]; exact m4
  generalize (q_after (g_S C) (xs (i + 1)) (xs (i + 2))) = Q at *
  have s2 := w_345 (d := d + 40) (o := 318) (xs (i + 1)) (xs (i + 2)) s1 hqi k12 kr (by omega)
  have k13' := m1.1.2.1
  have v1 : vp_in (iN (i + 1)) L = True := vp_iN (by omega) (by omega)
  have w1 : (iN (i + 1)).toNatClampNeg = i + 1 := iN_n (by omega)
  have v2 : vp_in (iN (i + 2)) L = True := vp_iN (by omega) (by omega)
  have w2 : (iN (i + 2)).toNatClampNeg = i + 2 := iN_n (by omega)
  cases Q with
  | inl v =>
    have s2 : CC (d + 41) 345 [.ref 70, .int ((xs (i + 1))), .int ((xs (i + 2))), .ref 318] (I, τ) = some (.inl (some (.int (iN 0))), (J, uL9 ρ 318 0 v.toInt64)) := s2
    have s3 : CC (d + 41) 262 [.ref 308, .int ((xs (i + 1))), .int ((xs (i + 2)))] (J, uL9 ρ 318 0 v.toInt64) = some (.inl (some (.int v)), (K, uL9 ρ 318 0 v.toInt64)) := s3
    have s4 := t_208 (d := d + 41) (n := 0) m1.1 h7
    have s4 : CC (d + 41) 208 [.ref 308] (K, uL9 ρ 318 0 v.toInt64) = some (.inl (some (.int (iN 0))), (K, uL9 ρ 318 0 v.toInt64)) := s4
    have k13' : tK (uL9 ρ 318 0 v.toInt64) 308 = (13, 0) := k13'
    have m6 : tK (uL9 ρ 318 0 v.toInt64) 1 = (100, L) := m6
    have m4 : tK (uL9 ρ 318 0 v.toInt64) 318 = (105, 1) := m4
    have z0 : vp_in (iN 0) 1 = True := vp_iN (by omega) (by omega)
    have z1 : (iN 0).toNatClampNeg = 0 := iN_n (by omega)
    refine ⟨K, uL9 ρ 318 0 v.toInt64, _, some (.int (iN 0)), some (.int v), ?_, e1, e2, e3⟩
    rw [b_378_618]
    simp only [kd_mk, k1, gd_true, true_and, and_true, and_self, iN_add, v1, w1, v2, w2, rd_I_mk, bd_ret, vl_some, x1, x2, s2, b_378_631, m6, y1, y2, k13', s3, b_378_644, s4, b_378_647, cm7, if_true, m4, z0, z1, uL9_at, lgc, b_378_662]
  | inr x =>
    have hx : x ∈ [0, 1] := hqi
    have hix : [0, 1].idxOf x ≤ 2 := List.idxOf_le_length
    have nz : (iN ([0, 1].idxOf x + 1) = iN 0) = False := (iN_eq (by omega) (by omega)).trans (eq_false (by omega))
    have s2 : CC (d + 41) 345 [.ref 70, .int ((xs (i + 1))), .int ((xs (i + 2))), .ref 318] (I, τ) = some (.inl (some (.int (iN ([0, 1].idxOf x + 1)))), (J, ρ)) := s2
    have s3 : CC (d + 41) 262 [.ref 308, .int ((xs (i + 1))), .int ((xs (i + 2)))] (J, ρ) = some (.inl (some (.int (iN 0))), (K, ρ)) := s3
    have s4 : CC (d + 41) 208 [.ref 308] (K, ρ) = some (.inl (some (.int (iN ([0, 1].idxOf x + 1)))), (K, ρ)) := t_208 (d := d + 41) (n := [0, 1].idxOf x + 1) m1.1 h7
    have k13' : tK ρ 308 = (13, 0) := k13'
    have m6 : tK ρ 1 = (100, L) := m6
    refine ⟨K, ρ, _, some (.int (iN ([0, 1].idxOf x + 1))), some (.int (iN 0)), ?_, e1, e2, e3⟩
    generalize hk : iN ([0, 1].idxOf x + 1) = kk at *
    rw [b_378_618]
    simp only [kd_mk, k1, gd_true, true_and, and_true, and_self, iN_add, v1, w1, v2, w2, rd_I_mk, bd_ret, vl_some, x1, x2, s2, b_378_631, m6, y1, y2, k13', s3, b_378_644, s4, b_378_647, cm7, if_true, nz, if_false, b_378_662]
theorem turn_16 (h : TI L xs I τ B C) (hB : B + 1400 ≤ 900000) (hi : i + 5 ≤ L) (hL : L ≤ 2560) : TT d L i 663 xs I τ B := by
  intro u6 u7
  have k1 := h.2.2.2.2.2.1
  have x0 := h.2.2.2.2.2.2
  have k12 := h.1.1.2.1
  have k13 := h.2.1.1.2.1
  have x1 := x0 (i + 1) (by omega)
  obtain ⟨J, ρ, s1, hp⟩ := p_round (d := d) h.1 (xs (i + 1))
  have hqi : qin [0] (q_round (g_S C) (xs (i + 1))) := qi_round
  obtain ⟨m1, m2, m3, m4, m5, m6, m7⟩ := TI_mid h hp (Sq_lw (o := 318) (q := (q_round (g_S C) (xs (i + 1)))))
  obtain ⟨K, s3, hn⟩ := n_round (d := d + 1) m1 (xs (i + 1))
  obtain ⟨e1, e2, e3⟩ := TI_end h (by omega) (by omega) hp (Sq_lw (o := 318) (q := (q_round (g_S C) (xs (i + 1))))) hn
  have y1 : J 1 (i + 1) = xs (i + 1) := by rw [m7]; exact x1
  have h7 := hn.2.1
  have kr : tK ρ 318 = (105, 1) := by rw [← Sq_K (Sq_lw (o := 318) (q := (q_round (g_S C) (xs (i + 1)))))]; exact m4
  generalize (q_round (g_S C) (xs (i + 1))) = Q at *
  have s2 := w_346 (d := d + 40) (o := 318) (xs (i + 1)) s1 hqi k12 kr (by omega)
  have k13' := m1.1.2.1
  have v1 : vp_in (iN (i + 1)) L = True := vp_iN (by omega) (by omega)
  have w1 : (iN (i + 1)).toNatClampNeg = i + 1 := iN_n (by omega)
  cases Q with
  | inl v =>
    have s2 : CC (d + 41) 346 [.ref 70, .int ((xs (i + 1))), .ref 318] (I, τ) = some (.inl (some (.int (iN 0))), (J, uL9 ρ 318 0 v.toInt64)) := s2
    have s3 : CC (d + 41) 263 [.ref 308, .int ((xs (i + 1)))] (J, uL9 ρ 318 0 v.toInt64) = some (.inl (some (.int v)), (K, uL9 ρ 318 0 v.toInt64)) := s3
    have s4 := t_208 (d := d + 41) (n := 0) m1.1 h7
    have s4 : CC (d + 41) 208 [.ref 308] (K, uL9 ρ 318 0 v.toInt64) = some (.inl (some (.int (iN 0))), (K, uL9 ρ 318 0 v.toInt64)) := s4
    have k13' : tK (uL9 ρ 318 0 v.toInt64) 308 = (13, 0) := k13'
    have m6 : tK (uL9 ρ 318 0 v.toInt64) 1 = (100, L) := m6
    have m4 : tK (uL9 ρ 318 0 v.toInt64) 318 = (105, 1) := m4
    have z0 : vp_in (iN 0) 1 = True := vp_iN (by omega) (by omega)
    have z1 : (iN 0).toNatClampNeg = 0 := iN_n (by omega)
    refine ⟨K, uL9 ρ 318 0 v.toInt64, _, some (.int (iN 0)), some (.int v), ?_, e1, e2, e3⟩
    rw [b_378_663]
    simp only [kd_mk, k1, gd_true, true_and, and_true, and_self, iN_add, v1, w1, rd_I_mk, bd_ret, vl_some, x1, s2, b_378_671, m6, y1, k13', s3, b_378_679, s4, b_378_682, cm7, if_true, m4, z0, z1, uL9_at, lgc, b_378_697]
  | inr x =>
    have hx : x ∈ [0] := hqi
    have hix : [0].idxOf x ≤ 1 := List.idxOf_le_length
    have nz : (iN ([0].idxOf x + 1) = iN 0) = False := (iN_eq (by omega) (by omega)).trans (eq_false (by omega))
    have s2 : CC (d + 41) 346 [.ref 70, .int ((xs (i + 1))), .ref 318] (I, τ) = some (.inl (some (.int (iN ([0].idxOf x + 1)))), (J, ρ)) := s2
    have s3 : CC (d + 41) 263 [.ref 308, .int ((xs (i + 1)))] (J, ρ) = some (.inl (some (.int (iN 0))), (K, ρ)) := s3
    have s4 : CC (d + 41) 208 [.ref 308] (K, ρ) = some (.inl (some (.int (iN ([0].idxOf x + 1)))), (K, ρ)) := t_208 (d := d + 41) (n := [0].idxOf x + 1) m1.1 h7
    have k13' : tK ρ 308 = (13, 0) := k13'
    have m6 : tK ρ 1 = (100, L) := m6
    refine ⟨K, ρ, _, some (.int (iN ([0].idxOf x + 1))), some (.int (iN 0)), ?_, e1, e2, e3⟩
    generalize hk : iN ([0].idxOf x + 1) = kk at *
    rw [b_378_663]
    simp only [kd_mk, k1, gd_true, true_and, and_true, and_self, iN_add, v1, w1, rd_I_mk, bd_ret, vl_some, x1, s2, b_378_671, m6, y1, k13', s3, b_378_679, s4, b_378_682, cm7, if_true, nz, if_false, b_378_697]
theorem turn_17 (h : TI L xs I τ B C) (hB : B + 1400 ≤ 900000) (hi : i + 5 ≤ L) (hL : L ≤ 2560) : TT d L i 698 xs I τ B := by
  intro u6 u7
  have k1 := h.2.2.2.2.2.1
  have x0 := h.2.2.2.2.2.2
  have k12 := h.1.1.2.1
  have k13 := h.2.1.1.2.1
  obtain ⟨J, ρ, s1, hp⟩ := p_statueCount (d := d + 1) h.1
  obtain ⟨m1, m2, m3, m4, m5, m6, m7⟩ := TI_mid h hp Sq_rf
  obtain ⟨K, s3, hn⟩ := n_statueCount (d := d + 1) m1
  obtain ⟨e1, e2, e3⟩ := TI_end h (by omega) (by omega) hp Sq_rf hn
  have k13' := m1.1.2.1
  refine ⟨K, ρ, _, u6, u7, ?_, e1, e2, e3⟩
  simp only [oO] at s1
  rw [b_378_698]
  simp only [kd_mk, k12, gd_true, s1, bd_ret, vl_some, b_378_700, k13', s3, b_378_702, if_true, cm7]
theorem turn_18 (h : TI L xs I τ B C) (hB : B + 1400 ≤ 900000) (hi : i + 5 ≤ L) (hL : L ≤ 2560) : TT d L i 705 xs I τ B := by
  intro u6 u7
  have k1 := h.2.2.2.2.2.1
  have x0 := h.2.2.2.2.2.2
  have k12 := h.1.1.2.1
  have k13 := h.2.1.1.2.1
  have x1 := x0 (i + 1) (by omega)
  obtain ⟨J, ρ, s1, hp⟩ := p_place (d := d) h.1 (xs (i + 1))
  have hqi : qin [0] (q_sta (fun k => iN (p_pl (s_P (g_S C)) k)) (g_S C) (xs (i + 1))) := qi_sta
  obtain ⟨m1, m2, m3, m4, m5, m6, m7⟩ := TI_mid h hp (Sq_lw (o := 318) (q := (q_sta (fun k => iN (p_pl (s_P (g_S C)) k)) (g_S C) (xs (i + 1)))))
  obtain ⟨K, s3, hn⟩ := n_place (d := d + 1) m1 (xs (i + 1))
  obtain ⟨e1, e2, e3⟩ := TI_end h (by omega) (by omega) hp (Sq_lw (o := 318) (q := (q_sta (fun k => iN (p_pl (s_P (g_S C)) k)) (g_S C) (xs (i + 1))))) hn
  have y1 : J 1 (i + 1) = xs (i + 1) := by rw [m7]; exact x1
  have h7 := hn.2.1
  have kr : tK ρ 318 = (105, 1) := by rw [← Sq_K (Sq_lw (o := 318) (q := (q_sta (fun k => iN (p_pl (s_P (g_S C)) k)) (g_S C) (xs (i + 1)))))]; exact m4
  generalize (q_sta (fun k => iN (p_pl (s_P (g_S C)) k)) (g_S C) (xs (i + 1))) = Q at *
  have s2 := w_347 (d := d + 40) (o := 318) (xs (i + 1)) s1 hqi k12 kr (by omega)
  have k13' := m1.1.2.1
  have v1 : vp_in (iN (i + 1)) L = True := vp_iN (by omega) (by omega)
  have w1 : (iN (i + 1)).toNatClampNeg = i + 1 := iN_n (by omega)
  cases Q with
  | inl v =>
    have s2 : CC (d + 41) 347 [.ref 70, .int ((xs (i + 1))), .ref 318] (I, τ) = some (.inl (some (.int (iN 0))), (J, uL9 ρ 318 0 v.toInt64)) := s2
    have s3 : CC (d + 41) 266 [.ref 308, .int ((xs (i + 1)))] (J, uL9 ρ 318 0 v.toInt64) = some (.inl (some (.int v)), (K, uL9 ρ 318 0 v.toInt64)) := s3
    have s4 := t_208 (d := d + 41) (n := 0) m1.1 h7
    have s4 : CC (d + 41) 208 [.ref 308] (K, uL9 ρ 318 0 v.toInt64) = some (.inl (some (.int (iN 0))), (K, uL9 ρ 318 0 v.toInt64)) := s4
    have k13' : tK (uL9 ρ 318 0 v.toInt64) 308 = (13, 0) := k13'
    have m6 : tK (uL9 ρ 318 0 v.toInt64) 1 = (100, L) := m6
    have m4 : tK (uL9 ρ 318 0 v.toInt64) 318 = (105, 1) := m4
    have z0 : vp_in (iN 0) 1 = True := vp_iN (by omega) (by omega)
    have z1 : (iN 0).toNatClampNeg = 0 := iN_n (by omega)
    refine ⟨K, uL9 ρ 318 0 v.toInt64, _, some (.int (iN 0)), some (.int v), ?_, e1, e2, e3⟩
    rw [b_378_705]
    simp only [kd_mk, k1, gd_true, true_and, and_true, and_self, iN_add, v1, w1, rd_I_mk, bd_ret, vl_some, x1, s2, b_378_713, m6, y1, k13', s3, b_378_721, s4, b_378_724, cm7, if_true, m4, z0, z1, uL9_at, lgc, b_378_739]
  | inr x =>
    have hx : x ∈ [0] := hqi
    have hix : [0].idxOf x ≤ 1 := List.idxOf_le_length
    have nz : (iN ([0].idxOf x + 1) = iN 0) = False := (iN_eq (by omega) (by omega)).trans (eq_false (by omega))
    have s2 : CC (d + 41) 347 [.ref 70, .int ((xs (i + 1))), .ref 318] (I, τ) = some (.inl (some (.int (iN ([0].idxOf x + 1)))), (J, ρ)) := s2
    have s3 : CC (d + 41) 266 [.ref 308, .int ((xs (i + 1)))] (J, ρ) = some (.inl (some (.int (iN 0))), (K, ρ)) := s3
    have s4 : CC (d + 41) 208 [.ref 308] (K, ρ) = some (.inl (some (.int (iN ([0].idxOf x + 1)))), (K, ρ)) := t_208 (d := d + 41) (n := [0].idxOf x + 1) m1.1 h7
    have k13' : tK ρ 308 = (13, 0) := k13'
    have m6 : tK ρ 1 = (100, L) := m6
    refine ⟨K, ρ, _, some (.int (iN ([0].idxOf x + 1))), some (.int (iN 0)), ?_, e1, e2, e3⟩
    generalize hk : iN ([0].idxOf x + 1) = kk at *
    rw [b_378_705]
    simp only [kd_mk, k1, gd_true, true_and, and_true, and_self, iN_add, v1, w1, rd_I_mk, bd_ret, vl_some, x1, s2, b_378_713, m6, y1, k13', s3, b_378_721, s4, b_378_724, cm7, if_true, nz, if_false, b_378_739]
theorem turn_19 (h : TI L xs I τ B C) (hB : B + 1400 ≤ 900000) (hi : i + 5 ≤ L) (hL : L ≤ 2560) : TT d L i 740 xs I τ B := by
  intro u6 u7
  have k1 := h.2.2.2.2.2.1
  have x0 := h.2.2.2.2.2.2
  have k12 := h.1.1.2.1
  have k13 := h.2.1.1.2.1
  have x1 := x0 (i + 1) (by omega)
  obtain ⟨J, ρ, s1, hp⟩ := p_home (d := d) h.1 (xs (i + 1))
  have hqi : qin [0] (q_sta (fun k => iN (p_ho (s_P (g_S C)) k)) (g_S C) (xs (i + 1))) := qi_sta
  obtain ⟨m1, m2, m3, m4, m5, m6, m7⟩ := TI_mid h hp (Sq_lw (o := 318) (q := (q_sta (fun k => iN (p_ho (s_P (g_S C)) k)) (g_S C) (xs (i + 1)))))
  obtain ⟨K, s3, hn⟩ := n_home (d := d + 1) m1 (xs (i + 1))
  obtain ⟨e1, e2, e3⟩ := TI_end h (by omega) (by omega) hp (Sq_lw (o := 318) (q := (q_sta (fun k => iN (p_ho (s_P (g_S C)) k)) (g_S C) (xs (i + 1))))) hn
  have y1 : J 1 (i + 1) = xs (i + 1) := by rw [m7]; exact x1
  have h7 := hn.2.1
  have kr : tK ρ 318 = (105, 1) := by rw [← Sq_K (Sq_lw (o := 318) (q := (q_sta (fun k => iN (p_ho (s_P (g_S C)) k)) (g_S C) (xs (i + 1)))))]; exact m4
  generalize (q_sta (fun k => iN (p_ho (s_P (g_S C)) k)) (g_S C) (xs (i + 1))) = Q at *
  have s2 := w_348 (d := d + 40) (o := 318) (xs (i + 1)) s1 hqi k12 kr (by omega)
  have k13' := m1.1.2.1
  have v1 : vp_in (iN (i + 1)) L = True := vp_iN (by omega) (by omega)
  have w1 : (iN (i + 1)).toNatClampNeg = i + 1 := iN_n (by omega)
  cases Q with
  | inl v =>
    have s2 : CC (d + 41) 348 [.ref 70, .int ((xs (i + 1))), .ref 318] (I, τ) = some (.inl (some (.int (iN 0))), (J, uL9 ρ 318 0 v.toInt64)) := s2
    have s3 : CC (d + 41) 267 [.ref 308, .int ((xs (i + 1)))] (J, uL9 ρ 318 0 v.toInt64) = some (.inl (some (.int v)), (K, uL9 ρ 318 0 v.toInt64)) := s3
    have s4 := t_208 (d := d + 41) (n := 0) m1.1 h7
    have s4 : CC (d + 41) 208 [.ref 308] (K, uL9 ρ 318 0 v.toInt64) = some (.inl (some (.int (iN 0))), (K, uL9 ρ 318 0 v.toInt64)) := s4
    have k13' : tK (uL9 ρ 318 0 v.toInt64) 308 = (13, 0) := k13'
    have m6 : tK (uL9 ρ 318 0 v.toInt64) 1 = (100, L) := m6
    have m4 : tK (uL9 ρ 318 0 v.toInt64) 318 = (105, 1) := m4
    have z0 : vp_in (iN 0) 1 = True := vp_iN (by omega) (by omega)
    have z1 : (iN 0).toNatClampNeg = 0 := iN_n (by omega)
    refine ⟨K, uL9 ρ 318 0 v.toInt64, _, some (.int (iN 0)), some (.int v), ?_, e1, e2, e3⟩
    rw [b_378_740]
    simp only [kd_mk, k1, gd_true, true_and, and_true, and_self, iN_add, v1, w1, rd_I_mk, bd_ret, vl_some, x1, s2, b_378_748, m6, y1, k13', s3, b_378_756, s4, b_378_759, cm7, if_true, m4, z0, z1, uL9_at, lgc, b_378_774]
  | inr x =>
    have hx : x ∈ [0] := hqi
    have hix : [0].idxOf x ≤ 1 := List.idxOf_le_length
    have nz : (iN ([0].idxOf x + 1) = iN 0) = False := (iN_eq (by omega) (by omega)).trans (eq_false (by omega))
    have s2 : CC (d + 41) 348 [.ref 70, .int ((xs (i + 1))), .ref 318] (I, τ) = some (.inl (some (.int (iN ([0].idxOf x + 1)))), (J, ρ)) := s2
    have s3 : CC (d + 41) 267 [.ref 308, .int ((xs (i + 1)))] (J, ρ) = some (.inl (some (.int (iN 0))), (K, ρ)) := s3
    have s4 : CC (d + 41) 208 [.ref 308] (K, ρ) = some (.inl (some (.int (iN ([0].idxOf x + 1)))), (K, ρ)) := t_208 (d := d + 41) (n := [0].idxOf x + 1) m1.1 h7
    have k13' : tK ρ 308 = (13, 0) := k13'
    have m6 : tK ρ 1 = (100, L) := m6
    refine ⟨K, ρ, _, some (.int (iN ([0].idxOf x + 1))), some (.int (iN 0)), ?_, e1, e2, e3⟩
    generalize hk : iN ([0].idxOf x + 1) = kk at *
    rw [b_378_740]
    simp only [kd_mk, k1, gd_true, true_and, and_true, and_self, iN_add, v1, w1, rd_I_mk, bd_ret, vl_some, x1, s2, b_378_748, m6, y1, k13', s3, b_378_756, s4, b_378_759, cm7, if_true, nz, if_false, b_378_774]
theorem turn_20 (h : TI L xs I τ B C) (hB : B + 1400 ≤ 900000) (hi : i + 5 ≤ L) (hL : L ≤ 2560) : TT d L i 775 xs I τ B := by
  intro u6 u7
  have k1 := h.2.2.2.2.2.1
  have x0 := h.2.2.2.2.2.2
  have k12 := h.1.1.2.1
  have k13 := h.2.1.1.2.1
  have x1 := x0 (i + 1) (by omega)
  obtain ⟨J, ρ, s1, hp⟩ := p_weight (d := d) h.1 (xs (i + 1))
  have hqi : qin [0] (q_sta (fun k => iN (p_we (s_P (g_S C)) k)) (g_S C) (xs (i + 1))) := qi_sta
  obtain ⟨m1, m2, m3, m4, m5, m6, m7⟩ := TI_mid h hp (Sq_lw (o := 318) (q := (q_sta (fun k => iN (p_we (s_P (g_S C)) k)) (g_S C) (xs (i + 1)))))
  obtain ⟨K, s3, hn⟩ := n_weight (d := d + 1) m1 (xs (i + 1))
  obtain ⟨e1, e2, e3⟩ := TI_end h (by omega) (by omega) hp (Sq_lw (o := 318) (q := (q_sta (fun k => iN (p_we (s_P (g_S C)) k)) (g_S C) (xs (i + 1))))) hn
  have y1 : J 1 (i + 1) = xs (i + 1) := by rw [m7]; exact x1
  have h7 := hn.2.1
  have kr : tK ρ 318 = (105, 1) := by rw [← Sq_K (Sq_lw (o := 318) (q := (q_sta (fun k => iN (p_we (s_P (g_S C)) k)) (g_S C) (xs (i + 1)))))]; exact m4
  generalize (q_sta (fun k => iN (p_we (s_P (g_S C)) k)) (g_S C) (xs (i + 1))) = Q at *
  have s2 := w_349 (d := d + 40) (o := 318) (xs (i + 1)) s1 hqi k12 kr (by omega)
  have k13' := m1.1.2.1
  have v1 : vp_in (iN (i + 1)) L = True := vp_iN (by omega) (by omega)
  have w1 : (iN (i + 1)).toNatClampNeg = i + 1 := iN_n (by omega)
  cases Q with
  | inl v =>
    have s2 : CC (d + 41) 349 [.ref 70, .int ((xs (i + 1))), .ref 318] (I, τ) = some (.inl (some (.int (iN 0))), (J, uL9 ρ 318 0 v.toInt64)) := s2
    have s3 : CC (d + 41) 268 [.ref 308, .int ((xs (i + 1)))] (J, uL9 ρ 318 0 v.toInt64) = some (.inl (some (.int v)), (K, uL9 ρ 318 0 v.toInt64)) := s3
    have s4 := t_208 (d := d + 41) (n := 0) m1.1 h7
    have s4 : CC (d + 41) 208 [.ref 308] (K, uL9 ρ 318 0 v.toInt64) = some (.inl (some (.int (iN 0))), (K, uL9 ρ 318 0 v.toInt64)) := s4
    have k13' : tK (uL9 ρ 318 0 v.toInt64) 308 = (13, 0) := k13'
    have m6 : tK (uL9 ρ 318 0 v.toInt64) 1 = (100, L) := m6
    have m4 : tK (uL9 ρ 318 0 v.toInt64) 318 = (105, 1) := m4
    have z0 : vp_in (iN 0) 1 = True := vp_iN (by omega) (by omega)
    have z1 : (iN 0).toNatClampNeg = 0 := iN_n (by omega)
    refine ⟨K, uL9 ρ 318 0 v.toInt64, _, some (.int (iN 0)), some (.int v), ?_, e1, e2, e3⟩
    rw [b_378_775]
    simp only [kd_mk, k1, gd_true, true_and, and_true, and_self, iN_add, v1, w1, rd_I_mk, bd_ret, vl_some, x1, s2, b_378_783, m6, y1, k13', s3, b_378_791, s4, b_378_794, cm7, if_true, m4, z0, z1, uL9_at, lgc, b_378_809]
  | inr x =>
    have hx : x ∈ [0] := hqi
    have hix : [0].idxOf x ≤ 1 := List.idxOf_le_length
    have nz : (iN ([0].idxOf x + 1) = iN 0) = False := (iN_eq (by omega) (by omega)).trans (eq_false (by omega))
    have s2 : CC (d + 41) 349 [.ref 70, .int ((xs (i + 1))), .ref 318] (I, τ) = some (.inl (some (.int (iN ([0].idxOf x + 1)))), (J, ρ)) := s2
    have s3 : CC (d + 41) 268 [.ref 308, .int ((xs (i + 1)))] (J, ρ) = some (.inl (some (.int (iN 0))), (K, ρ)) := s3
    have s4 : CC (d + 41) 208 [.ref 308] (K, ρ) = some (.inl (some (.int (iN ([0].idxOf x + 1)))), (K, ρ)) := t_208 (d := d + 41) (n := [0].idxOf x + 1) m1.1 h7
    have k13' : tK ρ 308 = (13, 0) := k13'
    have m6 : tK ρ 1 = (100, L) := m6
    refine ⟨K, ρ, _, some (.int (iN ([0].idxOf x + 1))), some (.int (iN 0)), ?_, e1, e2, e3⟩
    generalize hk : iN ([0].idxOf x + 1) = kk at *
    rw [b_378_775]
    simp only [kd_mk, k1, gd_true, true_and, and_true, and_self, iN_add, v1, w1, rd_I_mk, bd_ret, vl_some, x1, s2, b_378_783, m6, y1, k13', s3, b_378_791, s4, b_378_794, cm7, if_true, nz, if_false, b_378_809]
theorem turn_21 (h : TI L xs I τ B C) (hB : B + 1400 ≤ 900000) (hi : i + 5 ≤ L) (hL : L ≤ 2560) : TT d L i 810 xs I τ B := by
  intro u6 u7
  have k1 := h.2.2.2.2.2.1
  have x0 := h.2.2.2.2.2.2
  have k12 := h.1.1.2.1
  have k13 := h.2.1.1.2.1
  have x1 := x0 (i + 1) (by omega)
  obtain ⟨J, ρ, s1, hp⟩ := p_isBound (d := d) h.1 (xs (i + 1))
  have hqi : qin [0] (q_sta (fun k => b01 (bU (s_U (g_S C)) k)) (g_S C) (xs (i + 1))) := qi_sta
  obtain ⟨m1, m2, m3, m4, m5, m6, m7⟩ := TI_mid h hp (Sq_lw (o := 318) (q := (q_sta (fun k => b01 (bU (s_U (g_S C)) k)) (g_S C) (xs (i + 1)))))
  obtain ⟨K, s3, hn⟩ := n_isBound (d := d + 1) m1 (xs (i + 1))
  have hqv : ∀ v, (q_sta (fun k => b01 (bU (s_U (g_S C)) k)) (g_S C) (xs (i + 1))) = .inl v → v = iN 0 ∨ v = iN 1 := qv_sta
  obtain ⟨e1, e2, e3⟩ := TI_end h (by omega) (by omega) hp (Sq_lw (o := 318) (q := (q_sta (fun k => b01 (bU (s_U (g_S C)) k)) (g_S C) (xs (i + 1))))) hn
  have y1 : J 1 (i + 1) = xs (i + 1) := by rw [m7]; exact x1
  have h7 := hn.2.1
  have kr : tK ρ 318 = (105, 1) := by rw [← Sq_K (Sq_lw (o := 318) (q := (q_sta (fun k => b01 (bU (s_U (g_S C)) k)) (g_S C) (xs (i + 1)))))]; exact m4
  generalize (q_sta (fun k => b01 (bU (s_U (g_S C)) k)) (g_S C) (xs (i + 1))) = Q at *
  have s2 := w_350 (d := d + 40) (o := 318) (xs (i + 1)) s1 hqi hqv k12 kr (by omega)
  have k13' := m1.1.2.1
  have v1 : vp_in (iN (i + 1)) L = True := vp_iN (by omega) (by omega)
  have w1 : (iN (i + 1)).toNatClampNeg = i + 1 := iN_n (by omega)
  cases Q with
  | inl v =>
    have s2 : CC (d + 41) 350 [.ref 70, .int ((xs (i + 1))), .ref 318] (I, τ) = some (.inl (some (.int (iN 0))), (J, uL9 ρ 318 0 v.toInt64)) := s2
    have s3 : CC (d + 41) 269 [.ref 308, .int ((xs (i + 1)))] (J, uL9 ρ 318 0 v.toInt64) = some (.inl (some (.int v)), (K, uL9 ρ 318 0 v.toInt64)) := s3
    have s4 := t_208 (d := d + 41) (n := 0) m1.1 h7
    have s4 : CC (d + 41) 208 [.ref 308] (K, uL9 ρ 318 0 v.toInt64) = some (.inl (some (.int (iN 0))), (K, uL9 ρ 318 0 v.toInt64)) := s4
    have k13' : tK (uL9 ρ 318 0 v.toInt64) 308 = (13, 0) := k13'
    have m6 : tK (uL9 ρ 318 0 v.toInt64) 1 = (100, L) := m6
    have m4 : tK (uL9 ρ 318 0 v.toInt64) 318 = (105, 1) := m4
    have z0 : vp_in (iN 0) 1 = True := vp_iN (by omega) (by omega)
    have z1 : (iN 0).toNatClampNeg = 0 := iN_n (by omega)
    rcases hqv v rfl with rfl | rfl
    · refine ⟨K, uL9 ρ 318 0 (iN 0).toInt64, _, some (.int (iN 0)), some (.int (iN 0)), ?_, e1, e2, e3⟩
      have lr : rd_L (K, uL9 ρ 318 0 (iN 0).toInt64) 318 0 = Int64.ofNat 0 := (uL9_at).trans l01.1
      rw [b_378_810]
      simp only [kd_mk, k1, gd_true, true_and, and_true, and_self, iN_add, v1, w1, rd_I_mk, bd_ret, vl_some, x1, s2, b_378_818, m6, y1, k13', s3, b_378_826, s4, b_378_829, cm7, if_true, m4, z0, z1, n10i, if_false, lr, b_378_843, lgc, b_378_847]
    · refine ⟨K, uL9 ρ 318 0 (iN 1).toInt64, _, some (.int (iN 0)), some (.int (iN 1)), ?_, e1, e2, e3⟩
      have lr : rd_L (K, uL9 ρ 318 0 (iN 1).toInt64) 318 0 = Int64.ofNat 1 := (uL9_at).trans l01.2
      rw [b_378_810]
      simp only [kd_mk, k1, gd_true, true_and, and_true, and_self, iN_add, v1, w1, rd_I_mk, bd_ret, vl_some, x1, s2, b_378_818, m6, y1, k13', s3, b_378_826, s4, b_378_829, cm7, if_true, m4, z0, z1, n10i, if_false, lr, b_378_843, lgc, b_378_847]
  | inr x =>
    have hx : x ∈ [0] := hqi
    have hix : [0].idxOf x ≤ 1 := List.idxOf_le_length
    have nz : (iN ([0].idxOf x + 1) = iN 0) = False := (iN_eq (by omega) (by omega)).trans (eq_false (by omega))
    have s2 : CC (d + 41) 350 [.ref 70, .int ((xs (i + 1))), .ref 318] (I, τ) = some (.inl (some (.int (iN ([0].idxOf x + 1)))), (J, ρ)) := s2
    have s3 : CC (d + 41) 269 [.ref 308, .int ((xs (i + 1)))] (J, ρ) = some (.inl (some (.int (iN 0))), (K, ρ)) := s3
    have s4 : CC (d + 41) 208 [.ref 308] (K, ρ) = some (.inl (some (.int (iN ([0].idxOf x + 1)))), (K, ρ)) := t_208 (d := d + 41) (n := [0].idxOf x + 1) m1.1 h7
    have k13' : tK ρ 308 = (13, 0) := k13'
    have m6 : tK ρ 1 = (100, L) := m6
    refine ⟨K, ρ, _, some (.int (iN ([0].idxOf x + 1))), some (.int (iN 0)), ?_, e1, e2, e3⟩
    generalize hk : iN ([0].idxOf x + 1) = kk at *
    rw [b_378_810]
    simp only [kd_mk, k1, gd_true, true_and, and_true, and_self, iN_add, v1, w1, rd_I_mk, bd_ret, vl_some, x1, s2, b_378_818, m6, y1, k13', s3, b_378_826, s4, b_378_829, cm7, if_true, nz, if_false, b_378_847]
theorem turn_22 (h : TI L xs I τ B C) (hB : B + 1400 ≤ 900000) (hi : i + 5 ≤ L) (hL : L ≤ 2560) : TT d L i 848 xs I τ B := by
  intro u6 u7
  have k1 := h.2.2.2.2.2.1
  have x0 := h.2.2.2.2.2.2
  have k12 := h.1.1.2.1
  have k13 := h.2.1.1.2.1
  have x1 := x0 (i + 1) (by omega)
  obtain ⟨J, ρ, s1, hp⟩ := p_isHome (d := d) h.1 (xs (i + 1))
  have hqi : qin [0] (q_sta (fun k => b01 (hmB (g_S C) k)) (g_S C) (xs (i + 1))) := qi_sta
  obtain ⟨m1, m2, m3, m4, m5, m6, m7⟩ := TI_mid h hp (Sq_lw (o := 318) (q := (q_sta (fun k => b01 (hmB (g_S C) k)) (g_S C) (xs (i + 1)))))
  obtain ⟨K, s3, hn⟩ := n_isHome (d := d + 1) m1 (xs (i + 1))
  have hqv : ∀ v, (q_sta (fun k => b01 (hmB (g_S C) k)) (g_S C) (xs (i + 1))) = .inl v → v = iN 0 ∨ v = iN 1 := qv_sta
  obtain ⟨e1, e2, e3⟩ := TI_end h (by omega) (by omega) hp (Sq_lw (o := 318) (q := (q_sta (fun k => b01 (hmB (g_S C) k)) (g_S C) (xs (i + 1))))) hn
  have y1 : J 1 (i + 1) = xs (i + 1) := by rw [m7]; exact x1
  have h7 := hn.2.1
  have kr : tK ρ 318 = (105, 1) := by rw [← Sq_K (Sq_lw (o := 318) (q := (q_sta (fun k => b01 (hmB (g_S C) k)) (g_S C) (xs (i + 1)))))]; exact m4
  generalize (q_sta (fun k => b01 (hmB (g_S C) k)) (g_S C) (xs (i + 1))) = Q at *
  have s2 := w_351 (d := d + 40) (o := 318) (xs (i + 1)) s1 hqi hqv k12 kr (by omega)
  have k13' := m1.1.2.1
  have v1 : vp_in (iN (i + 1)) L = True := vp_iN (by omega) (by omega)
  have w1 : (iN (i + 1)).toNatClampNeg = i + 1 := iN_n (by omega)
  cases Q with
  | inl v =>
    have s2 : CC (d + 41) 351 [.ref 70, .int ((xs (i + 1))), .ref 318] (I, τ) = some (.inl (some (.int (iN 0))), (J, uL9 ρ 318 0 v.toInt64)) := s2
    have s3 : CC (d + 41) 271 [.ref 308, .int ((xs (i + 1)))] (J, uL9 ρ 318 0 v.toInt64) = some (.inl (some (.int v)), (K, uL9 ρ 318 0 v.toInt64)) := s3
    have s4 := t_208 (d := d + 41) (n := 0) m1.1 h7
    have s4 : CC (d + 41) 208 [.ref 308] (K, uL9 ρ 318 0 v.toInt64) = some (.inl (some (.int (iN 0))), (K, uL9 ρ 318 0 v.toInt64)) := s4
    have k13' : tK (uL9 ρ 318 0 v.toInt64) 308 = (13, 0) := k13'
    have m6 : tK (uL9 ρ 318 0 v.toInt64) 1 = (100, L) := m6
    have m4 : tK (uL9 ρ 318 0 v.toInt64) 318 = (105, 1) := m4
    have z0 : vp_in (iN 0) 1 = True := vp_iN (by omega) (by omega)
    have z1 : (iN 0).toNatClampNeg = 0 := iN_n (by omega)
    rcases hqv v rfl with rfl | rfl
    · refine ⟨K, uL9 ρ 318 0 (iN 0).toInt64, _, some (.int (iN 0)), some (.int (iN 0)), ?_, e1, e2, e3⟩
      have lr : rd_L (K, uL9 ρ 318 0 (iN 0).toInt64) 318 0 = Int64.ofNat 0 := (uL9_at).trans l01.1
      rw [b_378_848]
      simp only [kd_mk, k1, gd_true, true_and, and_true, and_self, iN_add, v1, w1, rd_I_mk, bd_ret, vl_some, x1, s2, b_378_856, m6, y1, k13', s3, b_378_864, s4, b_378_867, cm7, if_true, m4, z0, z1, n10i, if_false, lr, b_378_881, lgc, b_378_885]
    · refine ⟨K, uL9 ρ 318 0 (iN 1).toInt64, _, some (.int (iN 0)), some (.int (iN 1)), ?_, e1, e2, e3⟩
      have lr : rd_L (K, uL9 ρ 318 0 (iN 1).toInt64) 318 0 = Int64.ofNat 1 := (uL9_at).trans l01.2
      rw [b_378_848]
      simp only [kd_mk, k1, gd_true, true_and, and_true, and_self, iN_add, v1, w1, rd_I_mk, bd_ret, vl_some, x1, s2, b_378_856, m6, y1, k13', s3, b_378_864, s4, b_378_867, cm7, if_true, m4, z0, z1, n10i, if_false, lr, b_378_881, lgc, b_378_885]
  | inr x =>
    have hx : x ∈ [0] := hqi
    have hix : [0].idxOf x ≤ 1 := List.idxOf_le_length
    have nz : (iN ([0].idxOf x + 1) = iN 0) = False := (iN_eq (by omega) (by omega)).trans (eq_false (by omega))
    have s2 : CC (d + 41) 351 [.ref 70, .int ((xs (i + 1))), .ref 318] (I, τ) = some (.inl (some (.int (iN ([0].idxOf x + 1)))), (J, ρ)) := s2
    have s3 : CC (d + 41) 271 [.ref 308, .int ((xs (i + 1)))] (J, ρ) = some (.inl (some (.int (iN 0))), (K, ρ)) := s3
    have s4 : CC (d + 41) 208 [.ref 308] (K, ρ) = some (.inl (some (.int (iN ([0].idxOf x + 1)))), (K, ρ)) := t_208 (d := d + 41) (n := [0].idxOf x + 1) m1.1 h7
    have k13' : tK ρ 308 = (13, 0) := k13'
    have m6 : tK ρ 1 = (100, L) := m6
    refine ⟨K, ρ, _, some (.int (iN ([0].idxOf x + 1))), some (.int (iN 0)), ?_, e1, e2, e3⟩
    generalize hk : iN ([0].idxOf x + 1) = kk at *
    rw [b_378_848]
    simp only [kd_mk, k1, gd_true, true_and, and_true, and_self, iN_add, v1, w1, rd_I_mk, bd_ret, vl_some, x1, s2, b_378_856, m6, y1, k13', s3, b_378_864, s4, b_378_867, cm7, if_true, nz, if_false, b_378_885]
theorem turn_23 (h : TI L xs I τ B C) (hB : B + 1400 ≤ 900000) (hi : i + 5 ≤ L) (hL : L ≤ 2560) : TT d L i 886 xs I τ B := by
  intro u6 u7
  have k1 := h.2.2.2.2.2.1
  have x0 := h.2.2.2.2.2.2
  have k12 := h.1.1.2.1
  have k13 := h.2.1.1.2.1
  have x1 := x0 (i + 1) (by omega)
  obtain ⟨J, ρ, s1, hp⟩ := p_byWeight (d := d) h.1 (xs (i + 1))
  have hqi : qin [3] (q_byWeight (g_S C) (xs (i + 1))) := qi_byWeight
  obtain ⟨m1, m2, m3, m4, m5, m6, m7⟩ := TI_mid h hp (Sq_lw (o := 318) (q := (q_byWeight (g_S C) (xs (i + 1)))))
  obtain ⟨K, s3, hn⟩ := n_byWeight (d := d + 1) m1 (xs (i + 1))
  obtain ⟨e1, e2, e3⟩ := TI_end h (by omega) (by omega) hp (Sq_lw (o := 318) (q := (q_byWeight (g_S C) (xs (i + 1))))) hn
  have y1 : J 1 (i + 1) = xs (i + 1) := by rw [m7]; exact x1
  have h7 := hn.2.1
  have kr : tK ρ 318 = (105, 1) := by rw [← Sq_K (Sq_lw (o := 318) (q := (q_byWeight (g_S C) (xs (i + 1)))))]; exact m4
  generalize (q_byWeight (g_S C) (xs (i + 1))) = Q at *
  have s2 := w_352 (d := d + 40) (o := 318) (xs (i + 1)) s1 hqi k12 kr (by omega)
  have k13' := m1.1.2.1
  have v1 : vp_in (iN (i + 1)) L = True := vp_iN (by omega) (by omega)
  have w1 : (iN (i + 1)).toNatClampNeg = i + 1 := iN_n (by omega)
  cases Q with
  | inl v =>
    have s2 : CC (d + 41) 352 [.ref 70, .int ((xs (i + 1))), .ref 318] (I, τ) = some (.inl (some (.int (iN 0))), (J, uL9 ρ 318 0 v.toInt64)) := s2
    have s3 : CC (d + 41) 272 [.ref 308, .int ((xs (i + 1)))] (J, uL9 ρ 318 0 v.toInt64) = some (.inl (some (.int v)), (K, uL9 ρ 318 0 v.toInt64)) := s3
    have s4 := t_208 (d := d + 41) (n := 0) m1.1 h7
    have s4 : CC (d + 41) 208 [.ref 308] (K, uL9 ρ 318 0 v.toInt64) = some (.inl (some (.int (iN 0))), (K, uL9 ρ 318 0 v.toInt64)) := s4
    have k13' : tK (uL9 ρ 318 0 v.toInt64) 308 = (13, 0) := k13'
    have m6 : tK (uL9 ρ 318 0 v.toInt64) 1 = (100, L) := m6
    have m4 : tK (uL9 ρ 318 0 v.toInt64) 318 = (105, 1) := m4
    have z0 : vp_in (iN 0) 1 = True := vp_iN (by omega) (by omega)
    have z1 : (iN 0).toNatClampNeg = 0 := iN_n (by omega)
    refine ⟨K, uL9 ρ 318 0 v.toInt64, _, some (.int (iN 0)), some (.int v), ?_, e1, e2, e3⟩
    rw [b_378_886]
    simp only [kd_mk, k1, gd_true, true_and, and_true, and_self, iN_add, v1, w1, rd_I_mk, bd_ret, vl_some, x1, s2, b_378_894, m6, y1, k13', s3, b_378_902, s4, b_378_905, cm7, if_true, m4, z0, z1, uL9_at, lgc, b_378_920]
  | inr x =>
    have hx : x ∈ [3] := hqi
    have hix : [3].idxOf x ≤ 1 := List.idxOf_le_length
    have nz : (iN ([3].idxOf x + 1) = iN 0) = False := (iN_eq (by omega) (by omega)).trans (eq_false (by omega))
    have s2 : CC (d + 41) 352 [.ref 70, .int ((xs (i + 1))), .ref 318] (I, τ) = some (.inl (some (.int (iN ([3].idxOf x + 1)))), (J, ρ)) := s2
    have s3 : CC (d + 41) 272 [.ref 308, .int ((xs (i + 1)))] (J, ρ) = some (.inl (some (.int (iN 0))), (K, ρ)) := s3
    have s4 : CC (d + 41) 208 [.ref 308] (K, ρ) = some (.inl (some (.int (iN ([3].idxOf x + 1)))), (K, ρ)) := t_208 (d := d + 41) (n := [3].idxOf x + 1) m1.1 h7
    have k13' : tK ρ 308 = (13, 0) := k13'
    have m6 : tK ρ 1 = (100, L) := m6
    refine ⟨K, ρ, _, some (.int (iN ([3].idxOf x + 1))), some (.int (iN 0)), ?_, e1, e2, e3⟩
    generalize hk : iN ([3].idxOf x + 1) = kk at *
    rw [b_378_886]
    simp only [kd_mk, k1, gd_true, true_and, and_true, and_self, iN_add, v1, w1, rd_I_mk, bd_ret, vl_some, x1, s2, b_378_894, m6, y1, k13', s3, b_378_902, s4, b_378_905, cm7, if_true, nz, if_false, b_378_920]
theorem turn_24 (h : TI L xs I τ B C) (hB : B + 1400 ≤ 900000) (hi : i + 5 ≤ L) (hL : L ≤ 2560) : TT d L i 921 xs I τ B := by
  intro u6 u7
  have k1 := h.2.2.2.2.2.1
  have x0 := h.2.2.2.2.2.2
  have k12 := h.1.1.2.1
  have k13 := h.2.1.1.2.1
  have x1 := x0 (i + 1) (by omega)
  obtain ⟨J, ρ, s1, hp⟩ := p_nightsUntilHome (d := d) h.1 (by omega) (xs (i + 1))
  have hqi : qin [0, 3] (q_nights (g_S C) (xs (i + 1))) := qi_nights
  obtain ⟨m1, m2, m3, m4, m5, m6, m7⟩ := TI_mid h hp (Sq_lw (o := 318) (q := (q_nights (g_S C) (xs (i + 1)))))
  obtain ⟨K, s3, hn⟩ := n_nightsUntilHome (d := d + 1) m1 (by omega) (xs (i + 1))
  obtain ⟨e1, e2, e3⟩ := TI_end h (by omega) (by omega) hp (Sq_lw (o := 318) (q := (q_nights (g_S C) (xs (i + 1))))) hn
  have y1 : J 1 (i + 1) = xs (i + 1) := by rw [m7]; exact x1
  have h7 := hn.2.1
  have kr : tK ρ 318 = (105, 1) := by rw [← Sq_K (Sq_lw (o := 318) (q := (q_nights (g_S C) (xs (i + 1)))))]; exact m4
  generalize (q_nights (g_S C) (xs (i + 1))) = Q at *
  have s2 := w_353 (d := d + 40) (o := 318) (xs (i + 1)) s1 hqi k12 kr (by omega)
  have k13' := m1.1.2.1
  have v1 : vp_in (iN (i + 1)) L = True := vp_iN (by omega) (by omega)
  have w1 : (iN (i + 1)).toNatClampNeg = i + 1 := iN_n (by omega)
  cases Q with
  | inl v =>
    have s2 : CC (d + 41) 353 [.ref 70, .int ((xs (i + 1))), .ref 318] (I, τ) = some (.inl (some (.int (iN 0))), (J, uL9 ρ 318 0 v.toInt64)) := s2
    have s3 : CC (d + 41) 273 [.ref 308, .int ((xs (i + 1)))] (J, uL9 ρ 318 0 v.toInt64) = some (.inl (some (.int v)), (K, uL9 ρ 318 0 v.toInt64)) := s3
    have s4 := t_208 (d := d + 41) (n := 0) m1.1 h7
    have s4 : CC (d + 41) 208 [.ref 308] (K, uL9 ρ 318 0 v.toInt64) = some (.inl (some (.int (iN 0))), (K, uL9 ρ 318 0 v.toInt64)) := s4
    have k13' : tK (uL9 ρ 318 0 v.toInt64) 308 = (13, 0) := k13'
    have m6 : tK (uL9 ρ 318 0 v.toInt64) 1 = (100, L) := m6
    have m4 : tK (uL9 ρ 318 0 v.toInt64) 318 = (105, 1) := m4
    have z0 : vp_in (iN 0) 1 = True := vp_iN (by omega) (by omega)
    have z1 : (iN 0).toNatClampNeg = 0 := iN_n (by omega)
    refine ⟨K, uL9 ρ 318 0 v.toInt64, _, some (.int (iN 0)), some (.int v), ?_, e1, e2, e3⟩
    rw [b_378_921]
    simp only [kd_mk, k1, gd_true, true_and, and_true, and_self, iN_add, v1, w1, rd_I_mk, bd_ret, vl_some, x1, s2, b_378_929, m6, y1, k13', s3, b_378_937, s4, b_378_940, cm7, if_true, m4, z0, z1, uL9_at, lgc, b_378_955]
  | inr x =>
    have hx : x ∈ [0, 3] := hqi
    have hix : [0, 3].idxOf x ≤ 2 := List.idxOf_le_length
    have nz : (iN ([0, 3].idxOf x + 1) = iN 0) = False := (iN_eq (by omega) (by omega)).trans (eq_false (by omega))
    have s2 : CC (d + 41) 353 [.ref 70, .int ((xs (i + 1))), .ref 318] (I, τ) = some (.inl (some (.int (iN ([0, 3].idxOf x + 1)))), (J, ρ)) := s2
    have s3 : CC (d + 41) 273 [.ref 308, .int ((xs (i + 1)))] (J, ρ) = some (.inl (some (.int (iN 0))), (K, ρ)) := s3
    have s4 : CC (d + 41) 208 [.ref 308] (K, ρ) = some (.inl (some (.int (iN ([0, 3].idxOf x + 1)))), (K, ρ)) := t_208 (d := d + 41) (n := [0, 3].idxOf x + 1) m1.1 h7
    have k13' : tK ρ 308 = (13, 0) := k13'
    have m6 : tK ρ 1 = (100, L) := m6
    refine ⟨K, ρ, _, some (.int (iN ([0, 3].idxOf x + 1))), some (.int (iN 0)), ?_, e1, e2, e3⟩
    generalize hk : iN ([0, 3].idxOf x + 1) = kk at *
    rw [b_378_921]
    simp only [kd_mk, k1, gd_true, true_and, and_true, and_self, iN_add, v1, w1, rd_I_mk, bd_ret, vl_some, x1, s2, b_378_929, m6, y1, k13', s3, b_378_937, s4, b_378_940, cm7, if_true, nz, if_false, b_378_955]
end TN
