/-! THE LAW: its turns -/
theorem cm7 {x : Int32} : (x = x) = True := eq_true rfl
section QI
variable {S : sS} {C : sC} {x n : Int32}
theorem qi_arrow : qin [0] (q_arrow S x) := by unfold q_arrow; split <;> simp [qin]
theorem qi_isFree : qin [0] (q_isFree S x) := by unfold q_isFree; split <;> simp [qin]
theorem qi_statueOn : qin [0, 3] (q_statueOn S x) := by
  unfold q_statueOn qE
  split
  · split <;> simp [qin]
  · simp [qin]
theorem qi_after : qin [0, 1] (q_after S x n) := by
  unfold q_after
  split
  · split <;> simp [qin]
  · simp [qin]
theorem qi_round : qin [0] (q_round S x) := by unfold q_round; split <;> simp [qin]
theorem qi_sta {f : Nat → Int32} : qin [0] (q_sta f S x) := by unfold q_sta; split <;> simp [qin]
theorem qi_byWeight : qin [3] (q_byWeight S x) := by unfold q_byWeight; split <;> simp [qin]
theorem qi_nights : qin [0, 3] (q_nights S x) := by
  unfold q_nights
  split
  · split <;> simp [qin]
  · simp [qin]
theorem qi_writAt : qin [3] (q_writAt S x) := by unfold q_writAt; split <;> simp [qin]
theorem qi_wr {f : Nat → Int32} : qin [3] (q_wr f S x) := by unfold q_wr; split <;> simp [qin]
theorem qi_cause : qin [3] (q_cause S x) := by
  unfold q_cause
  split
  · simp [qin]
  · split <;> simp [qin]
theorem qi_byLast : qin [3] (q_byLast S x) := by unfold q_byLast; split <;> simp [qin]
theorem qi_blocks : qin [1] (q_blocks S x) := by unfold q_blocks; split <;> simp [qin]
theorem qi_fewest : qin [1, 4] (q_fewest S x) := by
  unfold q_fewest
  split
  · split <;> simp [qin]
  · simp [qin]
theorem qi_rS : qin [0] (q_rS C x) := by unfold q_rS; split <;> simp [qin]
theorem qi_rW : qin [3] (q_rW C x) := by unfold q_rW; split <;> simp [qin]
theorem qi_outAt : qin [0] (q_outAt C x) := by unfold q_outAt; split <;> simp [qin]
theorem qi_type : qin [1, 2] (q_type C x) := by
  unfold q_type
  split
  · split <;> simp [qin]
  · simp [qin]
theorem qi_run : qin [1, 2] (q_run C) := by
  unfold q_run
  split
  · split <;> simp [qin]
  · simp [qin]
theorem qi_opt {k : Nat} : qin [3] (q_opt k) := by unfold q_opt; split <;> simp [qin]
theorem qi_kind : qin [3] (q_kind C) := by unfold q_kind; split <;> simp [qin]
theorem qi_undo : qin [3] (q_undo C) := by unfold q_undo; split <;> simp [qin]
theorem qi_restore : qin [2] (q_restore C) := by unfold q_restore; split <;> simp [qin]
theorem b01_2 (b : Bool) : b01 b = iN 0 ∨ b01 b = iN 1 := by cases b; exact Or.inl rfl; exact Or.inr rfl
theorem qv_isFree : ∀ v, q_isFree S x = .inl v → v = iN 0 ∨ v = iN 1 := by
  intro v h
  unfold q_isFree at h
  split at h
  · cases h; exact b01_2 _
  · cases h
theorem qv_sta {f : Nat → Bool} : ∀ v, q_sta (fun k => b01 (f k)) S x = .inl v → v = iN 0 ∨ v = iN 1 := by
  intro v h
  unfold q_sta at h
  split at h
  · cases h; exact b01_2 _
  · cases h
theorem qv_isPaid {B : Nat} (hw : wS B S) : ∀ v, q_wr (fun k => iN (w_pd (ug (s_U S) k))) S x = .inl v → v = iN 0 ∨ v = iN 1 := by
  intro v h
  unfold q_wr at h
  split at h
  · cases h
  · rename_i k hk
    cases h
    have := (hw.2.2.1.2.2.2 k (fiX_lt hk)).2.2.2.2.1
    rcases Nat.le_one_iff_eq_zero_or_eq_one.mp this with e | e
    · exact Or.inl (by show iN _ = _; rw [e])
    · exact Or.inr (by show iN _ = _; rw [e])
end QI
section TN
variable {d L i : Nat} {xs : Nat → Int32} {I : qq_I} {τ : qq_R} {B : Nat} {C : sC}
theorem n10i : (iN 1 = iN 0) = False := (iN_eq (by omega) (by omega)).trans (eq_false (by omega))
/-- what a turn does, from block a on -/
def TT (d L i a : Nat) (xs : Nat → Int32) (I : qq_I) (τ : qq_R) (B : Nat) : Prop := ∀ u6 u7 : Option Value, ∃ I' τ' C' v6 v7, RR (d + 42) 378 a [some (.ref 1), some (.ref 70), some (.ref 308), some (.ref 318), some (.ref 319), some (.int (iN i)), u6, u7, none] [] (I, τ) = RR (d + 42) 378 1828 [some (.ref 1), some (.ref 70), some (.ref 308), some (.ref 318), some (.ref 319), some (.int (iN i)), v6, v7, none] [] (I', τ') ∧ TI L xs I' τ' (B + 660) C' ∧ tZ τ' ≤ tZ τ + 20 ∧ tU τ' ≤ tU τ + 4000
theorem turn_0 (h : TI L xs I τ B C) (hB : B + 1400 ≤ 900000) (hi : i + 5 ≤ L) (hL : L ≤ 2560) : TT d L i 28 xs I τ B := by
  intro u6 u7
  have k1 := h.2.2.2.2.2.1
  have x0 := h.2.2.2.2.2.2
  have k12 := h.1.1.2.1
  have k13 := h.2.1.1.2.1
  obtain ⟨J, ρ, s1, hp⟩ := p_addPedestal (d := d) h.1 (by omega)
  rw [mO_mq] at s1
  have hqi : qin [2] (mq (ft_ped (g_S C)) (o_ped (g_S C)).1) := qin_mq (l := [115]) in_ped
  have htc : tc [115] (ft_ped (g_S C)) = qc [2] (mq (ft_ped (g_S C)) (o_ped (g_S C)).1) := tc_mq (l := [115]) in_ped (by decide)
  obtain ⟨m1, m2, m3, m4, m5, m6, m7⟩ := TI_mid h hp (Sq_lw (o := 318) (q := (mq (ft_ped (g_S C)) (o_ped (g_S C)).1)))
  obtain ⟨K, s3, hn⟩ := n_ped (d := d + 1) m1 (by omega) hp.1.2.2.1
  rw [mV_mq] at s3
  rw [htc] at hn
  obtain ⟨e1, e2, e3⟩ := TI_end h (by omega) (by omega) hp (Sq_lw (o := 318) (q := (mq (ft_ped (g_S C)) (o_ped (g_S C)).1))) hn
  have h7 := hn.2.1
  have kr : tK ρ 318 = (105, 1) := by rw [← Sq_K (Sq_lw (o := 318) (q := (mq (ft_ped (g_S C)) (o_ped (g_S C)).1)))]; exact m4
  generalize (mq (ft_ped (g_S C)) (o_ped (g_S C)).1) = Q at *
  have s2 := w_331 (d := d + 40) (o := 318) s1 hqi k12 kr (by omega)
  have k13' := m1.1.2.1
  cases Q with
  | inl v =>
    have s2 : CC (d + 41) 331 [.ref 70, .ref 318] (I, τ) = some (.inl (some (.int (iN 0))), (J, uL9 ρ 318 0 v.toInt64)) := s2
    have s3 : CC (d + 41) 223 [.ref 308] (J, uL9 ρ 318 0 v.toInt64) = some (.inl (some (.int v)), (K, uL9 ρ 318 0 v.toInt64)) := s3
    have s4 := t_208 (d := d + 41) (n := 0) m1.1 h7
    have s4 : CC (d + 41) 208 [.ref 308] (K, uL9 ρ 318 0 v.toInt64) = some (.inl (some (.int (iN 0))), (K, uL9 ρ 318 0 v.toInt64)) := s4
    have k13' : tK (uL9 ρ 318 0 v.toInt64) 308 = (13, 0) := k13'
    have m6 : tK (uL9 ρ 318 0 v.toInt64) 1 = (100, L) := m6
    have m4 : tK (uL9 ρ 318 0 v.toInt64) 318 = (105, 1) := m4
    have z0 : vp_in (iN 0) 1 = True := vp_iN (by omega) (by omega)
    have z1 : (iN 0).toNatClampNeg = 0 := iN_n (by omega)
    refine ⟨K, uL9 ρ 318 0 v.toInt64, _, some (.int (iN 0)), some (.int v), ?_, e1, e2, e3⟩
    rw [b_378_28]
    simp only [kd_mk, k1, gd_true, true_and, and_true, and_self, iN_add, rd_I_mk, bd_ret, vl_some, s2, b_378_31, m6, k13', s3, b_378_34, s4, b_378_37, cm7, if_true, m4, z0, z1, uL9_at, lgc, b_378_52]
  | inr x =>
    have hx : x ∈ [2] := hqi
    have hix : [2].idxOf x ≤ 1 := List.idxOf_le_length
    have nz : (iN ([2].idxOf x + 1) = iN 0) = False := (iN_eq (by omega) (by omega)).trans (eq_false (by omega))
    have s2 : CC (d + 41) 331 [.ref 70, .ref 318] (I, τ) = some (.inl (some (.int (iN ([2].idxOf x + 1)))), (J, ρ)) := s2
    have s3 : CC (d + 41) 223 [.ref 308] (J, ρ) = some (.inl (some (.int (iN 0))), (K, ρ)) := s3
    have s4 : CC (d + 41) 208 [.ref 308] (K, ρ) = some (.inl (some (.int (iN ([2].idxOf x + 1)))), (K, ρ)) := t_208 (d := d + 41) (n := [2].idxOf x + 1) m1.1 h7
    have k13' : tK ρ 308 = (13, 0) := k13'
    have m6 : tK ρ 1 = (100, L) := m6
    refine ⟨K, ρ, _, some (.int (iN ([2].idxOf x + 1))), some (.int (iN 0)), ?_, e1, e2, e3⟩
    generalize hk : iN ([2].idxOf x + 1) = kk at *
    rw [b_378_28]
    simp only [kd_mk, k1, gd_true, true_and, and_true, and_self, iN_add, rd_I_mk, bd_ret, vl_some, s2, b_378_31, m6, k13', s3, b_378_34, s4, b_378_37, cm7, if_true, nz, if_false, b_378_52]
theorem turn_1 (h : TI L xs I τ B C) (hB : B + 1400 ≤ 900000) (hi : i + 5 ≤ L) (hL : L ≤ 2560) : TT d L i 53 xs I τ B := by
  intro u6 u7
  have k1 := h.2.2.2.2.2.1
  have x0 := h.2.2.2.2.2.2
  have k12 := h.1.1.2.1
  have k13 := h.2.1.1.2.1
  have x1 := x0 (i + 1) (by omega)
  have x2 := x0 (i + 2) (by omega)
  obtain ⟨J, ρ, s1, hp⟩ := p_setArrow (d := d) h.1 (by omega) (xs (i + 1)) (xs (i + 2))
  rw [mO_mq] at s1
  have hqi : qin [0] (mq (ft_arr (g_S C) (xs (i + 1)) (xs (i + 2))) (o_arr (g_S C) (xs (i + 1)) (xs (i + 2))).1) := qin_mq (l := [105]) in_arr
  have htc : tc [105] (ft_arr (g_S C) (xs (i + 1)) (xs (i + 2))) = qc [0] (mq (ft_arr (g_S C) (xs (i + 1)) (xs (i + 2))) (o_arr (g_S C) (xs (i + 1)) (xs (i + 2))).1) := tc_mq (l := [105]) in_arr (by decide)
  obtain ⟨m1, m2, m3, m4, m5, m6, m7⟩ := TI_mid h hp (Sq_lw (o := 318) (q := (mq (ft_arr (g_S C) (xs (i + 1)) (xs (i + 2))) (o_arr (g_S C) (xs (i + 1)) (xs (i + 2))).1)))
  obtain ⟨K, s3, hn⟩ := n_arr (d := d + 1) m1 (by omega) (xs (i + 1)) (xs (i + 2)) hp.1.2.2.1
  rw [mV_mq] at s3
  rw [htc] at hn
  obtain ⟨e1, e2, e3⟩ := TI_end h (by omega) (by omega) hp (Sq_lw (o := 318) (q := (mq (ft_arr (g_S C) (xs (i + 1)) (xs (i + 2))) (o_arr (g_S C) (xs (i + 1)) (xs (i + 2))).1))) hn
  have y1 : J 1 (i + 1) = xs (i + 1) := by rw [m7]; exact x1
  have y2 : J 1 (i + 2) = xs (i + 2) := by rw [m7]; exact x2
  have h7 := hn.2.1
  have kr : tK ρ 318 = (105, 1) := by rw [← Sq_K (Sq_lw (o := 318) (q := (mq (ft_arr (g_S C) (xs (i + 1)) (xs (i + 2))) (o_arr (g_S C) (xs (i + 1)) (xs (i + 2))).1)))]; exact m4
  generalize (mq (ft_arr (g_S C) (xs (i + 1)) (xs (i + 2))) (o_arr (g_S C) (xs (i + 1)) (xs (i + 2))).1) = Q at *
  have s2 := w_332 (d := d + 40) (o := 318) (xs (i + 1)) (xs (i + 2)) s1 hqi k12 kr (by omega)
  have k13' := m1.1.2.1
  have v1 : vp_in (iN (i + 1)) L = True := vp_iN (by omega) (by omega)
  have w1 : (iN (i + 1)).toNatClampNeg = i + 1 := iN_n (by omega)
  have v2 : vp_in (iN (i + 2)) L = True := vp_iN (by omega) (by omega)
  have w2 : (iN (i + 2)).toNatClampNeg = i + 2 := iN_n (by omega)
  cases Q with
  | inl v =>
    have s2 : CC (d + 41) 332 [.ref 70, .int ((xs (i + 1))), .int ((xs (i + 2))), .ref 318] (I, τ) = some (.inl (some (.int (iN 0))), (J, uL9 ρ 318 0 v.toInt64)) := s2
    have s3 : CC (d + 41) 225 [.ref 308, .int ((xs (i + 1))), .int ((xs (i + 2)))] (J, uL9 ρ 318 0 v.toInt64) = some (.inl (some (.int v)), (K, uL9 ρ 318 0 v.toInt64)) := s3
    have s4 := t_208 (d := d + 41) (n := 0) m1.1 h7
    have s4 : CC (d + 41) 208 [.ref 308] (K, uL9 ρ 318 0 v.toInt64) = some (.inl (some (.int (iN 0))), (K, uL9 ρ 318 0 v.toInt64)) := s4
    have k13' : tK (uL9 ρ 318 0 v.toInt64) 308 = (13, 0) := k13'
    have m6 : tK (uL9 ρ 318 0 v.toInt64) 1 = (100, L) := m6
    have m4 : tK (uL9 ρ 318 0 v.toInt64) 318 = (105, 1) := m4
    have z0 : vp_in (iN 0) 1 = True := vp_iN (by omega) (by omega)
    have z1 : (iN 0).toNatClampNeg = 0 := iN_n (by omega)
    refine ⟨K, uL9 ρ 318 0 v.toInt64, _, some (.int (iN 0)), some (.int v), ?_, e1, e2, e3⟩
    rw [b_378_53]
    simp only [kd_mk, k1, gd_true, true_and, and_true, and_self, iN_add, v1, w1, v2, w2, rd_I_mk, bd_ret, vl_some, x1, x2, s2, b_378_66, m6, y1, y2, k13', s3, b_378_79, s4, b_378_82, cm7, if_true, m4, z0, z1, uL9_at, lgc, b_378_97]
  | inr x =>
    have hx : x ∈ [0] := hqi
    have hix : [0].idxOf x ≤ 1 := List.idxOf_le_length
    have nz : (iN ([0].idxOf x + 1) = iN 0) = False := (iN_eq (by omega) (by omega)).trans (eq_false (by omega))
    have s2 : CC (d + 41) 332 [.ref 70, .int ((xs (i + 1))), .int ((xs (i + 2))), .ref 318] (I, τ) = some (.inl (some (.int (iN ([0].idxOf x + 1)))), (J, ρ)) := s2
    have s3 : CC (d + 41) 225 [.ref 308, .int ((xs (i + 1))), .int ((xs (i + 2)))] (J, ρ) = some (.inl (some (.int (iN 0))), (K, ρ)) := s3
    have s4 : CC (d + 41) 208 [.ref 308] (K, ρ) = some (.inl (some (.int (iN ([0].idxOf x + 1)))), (K, ρ)) := t_208 (d := d + 41) (n := [0].idxOf x + 1) m1.1 h7
    have k13' : tK ρ 308 = (13, 0) := k13'
    have m6 : tK ρ 1 = (100, L) := m6
    refine ⟨K, ρ, _, some (.int (iN ([0].idxOf x + 1))), some (.int (iN 0)), ?_, e1, e2, e3⟩
    generalize hk : iN ([0].idxOf x + 1) = kk at *
    rw [b_378_53]
    simp only [kd_mk, k1, gd_true, true_and, and_true, and_self, iN_add, v1, w1, v2, w2, rd_I_mk, bd_ret, vl_some, x1, x2, s2, b_378_66, m6, y1, y2, k13', s3, b_378_79, s4, b_378_82, cm7, if_true, nz, if_false, b_378_97]
theorem turn_2 (h : TI L xs I τ B C) (hB : B + 1400 ≤ 900000) (hi : i + 5 ≤ L) (hL : L ≤ 2560) : TT d L i 98 xs I τ B := by
  intro u6 u7
  have k1 := h.2.2.2.2.2.1
  have x0 := h.2.2.2.2.2.2
  have k12 := h.1.1.2.1
  have k13 := h.2.1.1.2.1
  have x1 := x0 (i + 1) (by omega)
  have x2 := x0 (i + 2) (by omega)
  obtain ⟨J, ρ, s1, hp⟩ := p_addStatue (d := d) h.1 (by omega) (xs (i + 1)) (xs (i + 2))
  rw [mO_mq] at s1
  have hqi : qin [0, 1, 2] (mq (ft_sta (g_S C) (xs (i + 1)) (xs (i + 2))) (o_sta (g_S C) (xs (i + 1)) (xs (i + 2))).1) := qin_mq (l := [105, 97, 115]) in_sta
  have htc : tc [105, 97, 115] (ft_sta (g_S C) (xs (i + 1)) (xs (i + 2))) = qc [0, 1, 2] (mq (ft_sta (g_S C) (xs (i + 1)) (xs (i + 2))) (o_sta (g_S C) (xs (i + 1)) (xs (i + 2))).1) := tc_mq (l := [105, 97, 115]) in_sta (by decide)
  obtain ⟨m1, m2, m3, m4, m5, m6, m7⟩ := TI_mid h hp (Sq_lw (o := 318) (q := (mq (ft_sta (g_S C) (xs (i + 1)) (xs (i + 2))) (o_sta (g_S C) (xs (i + 1)) (xs (i + 2))).1)))
  obtain ⟨K, s3, hn⟩ := n_sta (d := d + 1) m1 (by omega) (xs (i + 1)) (xs (i + 2)) hp.1.2.2.1
  rw [mV_mq] at s3
  rw [htc] at hn
  obtain ⟨e1, e2, e3⟩ := TI_end h (by omega) (by omega) hp (Sq_lw (o := 318) (q := (mq (ft_sta (g_S C) (xs (i + 1)) (xs (i + 2))) (o_sta (g_S C) (xs (i + 1)) (xs (i + 2))).1))) hn
  have y1 : J 1 (i + 1) = xs (i + 1) := by rw [m7]; exact x1
  have y2 : J 1 (i + 2) = xs (i + 2) := by rw [m7]; exact x2
  have h7 := hn.2.1
  have kr : tK ρ 318 = (105, 1) := by rw [← Sq_K (Sq_lw (o := 318) (q := (mq (ft_sta (g_S C) (xs (i + 1)) (xs (i + 2))) (o_sta (g_S C) (xs (i + 1)) (xs (i + 2))).1)))]; exact m4
  generalize (mq (ft_sta (g_S C) (xs (i + 1)) (xs (i + 2))) (o_sta (g_S C) (xs (i + 1)) (xs (i + 2))).1) = Q at *
  have s2 := w_333 (d := d + 40) (o := 318) (xs (i + 1)) (xs (i + 2)) s1 hqi k12 kr (by omega)
  have k13' := m1.1.2.1
  have v1 : vp_in (iN (i + 1)) L = True := vp_iN (by omega) (by omega)
  have w1 : (iN (i + 1)).toNatClampNeg = i + 1 := iN_n (by omega)
  have v2 : vp_in (iN (i + 2)) L = True := vp_iN (by omega) (by omega)
  have w2 : (iN (i + 2)).toNatClampNeg = i + 2 := iN_n (by omega)
  cases Q with
  | inl v =>
    have s2 : CC (d + 41) 333 [.ref 70, .int ((xs (i + 1))), .int ((xs (i + 2))), .ref 318] (I, τ) = some (.inl (some (.int (iN 0))), (J, uL9 ρ 318 0 v.toInt64)) := s2
    have s3 : CC (d + 41) 227 [.ref 308, .int ((xs (i + 1))), .int ((xs (i + 2)))] (J, uL9 ρ 318 0 v.toInt64) = some (.inl (some (.int v)), (K, uL9 ρ 318 0 v.toInt64)) := s3
    have s4 := t_208 (d := d + 41) (n := 0) m1.1 h7
    have s4 : CC (d + 41) 208 [.ref 308] (K, uL9 ρ 318 0 v.toInt64) = some (.inl (some (.int (iN 0))), (K, uL9 ρ 318 0 v.toInt64)) := s4
    have k13' : tK (uL9 ρ 318 0 v.toInt64) 308 = (13, 0) := k13'
    have m6 : tK (uL9 ρ 318 0 v.toInt64) 1 = (100, L) := m6
    have m4 : tK (uL9 ρ 318 0 v.toInt64) 318 = (105, 1) := m4
    have z0 : vp_in (iN 0) 1 = True := vp_iN (by omega) (by omega)
    have z1 : (iN 0).toNatClampNeg = 0 := iN_n (by omega)
    refine ⟨K, uL9 ρ 318 0 v.toInt64, _, some (.int (iN 0)), some (.int v), ?_, e1, e2, e3⟩
    rw [b_378_98]
    simp only [kd_mk, k1, gd_true, true_and, and_true, and_self, iN_add, v1, w1, v2, w2, rd_I_mk, bd_ret, vl_some, x1, x2, s2, b_378_111, m6, y1, y2, k13', s3, b_378_124, s4, b_378_127, cm7, if_true, m4, z0, z1, uL9_at, lgc, b_378_142]
  | inr x =>
    have hx : x ∈ [0, 1, 2] := hqi
    have hix : [0, 1, 2].idxOf x ≤ 3 := List.idxOf_le_length
    have nz : (iN ([0, 1, 2].idxOf x + 1) = iN 0) = False := (iN_eq (by omega) (by omega)).trans (eq_false (by omega))
    have s2 : CC (d + 41) 333 [.ref 70, .int ((xs (i + 1))), .int ((xs (i + 2))), .ref 318] (I, τ) = some (.inl (some (.int (iN ([0, 1, 2].idxOf x + 1)))), (J, ρ)) := s2
    have s3 : CC (d + 41) 227 [.ref 308, .int ((xs (i + 1))), .int ((xs (i + 2)))] (J, ρ) = some (.inl (some (.int (iN 0))), (K, ρ)) := s3
    have s4 : CC (d + 41) 208 [.ref 308] (K, ρ) = some (.inl (some (.int (iN ([0, 1, 2].idxOf x + 1)))), (K, ρ)) := t_208 (d := d + 41) (n := [0, 1, 2].idxOf x + 1) m1.1 h7
    have k13' : tK ρ 308 = (13, 0) := k13'
    have m6 : tK ρ 1 = (100, L) := m6
    refine ⟨K, ρ, _, some (.int (iN ([0, 1, 2].idxOf x + 1))), some (.int (iN 0)), ?_, e1, e2, e3⟩
    generalize hk : iN ([0, 1, 2].idxOf x + 1) = kk at *
    rw [b_378_98]
    simp only [kd_mk, k1, gd_true, true_and, and_true, and_self, iN_add, v1, w1, v2, w2, rd_I_mk, bd_ret, vl_some, x1, x2, s2, b_378_111, m6, y1, y2, k13', s3, b_378_124, s4, b_378_127, cm7, if_true, nz, if_false, b_378_142]
theorem turn_3 (h : TI L xs I τ B C) (hB : B + 1400 ≤ 900000) (hi : i + 5 ≤ L) (hL : L ≤ 2560) : TT d L i 143 xs I τ B := by
  intro u6 u7
  have k1 := h.2.2.2.2.2.1
  have x0 := h.2.2.2.2.2.2
  have k12 := h.1.1.2.1
  have k13 := h.2.1.1.2.1
  have x1 := x0 (i + 1) (by omega)
  have x2 := x0 (i + 2) (by omega)
  obtain ⟨J, ρ, s1, hp⟩ := p_setHome (d := d) h.1 (by omega) (xs (i + 1)) (xs (i + 2))
  rw [mO_mq] at s1
  have hqi : qin [0] (mq (ft_hom (g_S C) (xs (i + 1)) (xs (i + 2))) (o_hom (g_S C) (xs (i + 1)) (xs (i + 2))).1) := qin_mq (l := [105]) in_hom
  have htc : tc [105] (ft_hom (g_S C) (xs (i + 1)) (xs (i + 2))) = qc [0] (mq (ft_hom (g_S C) (xs (i + 1)) (xs (i + 2))) (o_hom (g_S C) (xs (i + 1)) (xs (i + 2))).1) := tc_mq (l := [105]) in_hom (by decide)
  obtain ⟨m1, m2, m3, m4, m5, m6, m7⟩ := TI_mid h hp (Sq_lw (o := 318) (q := (mq (ft_hom (g_S C) (xs (i + 1)) (xs (i + 2))) (o_hom (g_S C) (xs (i + 1)) (xs (i + 2))).1)))
  obtain ⟨K, s3, hn⟩ := n_hom (d := d + 1) m1 (by omega) (xs (i + 1)) (xs (i + 2)) hp.1.2.2.1
  rw [mV_mq] at s3
  rw [htc] at hn
  obtain ⟨e1, e2, e3⟩ := TI_end h (by omega) (by omega) hp (Sq_lw (o := 318) (q := (mq (ft_hom (g_S C) (xs (i + 1)) (xs (i + 2))) (o_hom (g_S C) (xs (i + 1)) (xs (i + 2))).1))) hn
  have y1 : J 1 (i + 1) = xs (i + 1) := by rw [m7]; exact x1
  have y2 : J 1 (i + 2) = xs (i + 2) := by rw [m7]; exact x2
  have h7 := hn.2.1
  have kr : tK ρ 318 = (105, 1) := by rw [← Sq_K (Sq_lw (o := 318) (q := (mq (ft_hom (g_S C) (xs (i + 1)) (xs (i + 2))) (o_hom (g_S C) (xs (i + 1)) (xs (i + 2))).1)))]; exact m4
  generalize (mq (ft_hom (g_S C) (xs (i + 1)) (xs (i + 2))) (o_hom (g_S C) (xs (i + 1)) (xs (i + 2))).1) = Q at *
  have s2 := w_334 (d := d + 40) (o := 318) (xs (i + 1)) (xs (i + 2)) s1 hqi k12 kr (by omega)
  have k13' := m1.1.2.1
  have v1 : vp_in (iN (i + 1)) L = True := vp_iN (by omega) (by omega)
  have w1 : (iN (i + 1)).toNatClampNeg = i + 1 := iN_n (by omega)
  have v2 : vp_in (iN (i + 2)) L = True := vp_iN (by omega) (by omega)
  have w2 : (iN (i + 2)).toNatClampNeg = i + 2 := iN_n (by omega)
  cases Q with
  | inl v =>
    have s2 : CC (d + 41) 334 [.ref 70, .int ((xs (i + 1))), .int ((xs (i + 2))), .ref 318] (I, τ) = some (.inl (some (.int (iN 0))), (J, uL9 ρ 318 0 v.toInt64)) := s2
    have s3 : CC (d + 41) 229 [.ref 308, .int ((xs (i + 1))), .int ((xs (i + 2)))] (J, uL9 ρ 318 0 v.toInt64) = some (.inl (some (.int v)), (K, uL9 ρ 318 0 v.toInt64)) := s3
    have s4 := t_208 (d := d + 41) (n := 0) m1.1 h7
    have s4 : CC (d + 41) 208 [.ref 308] (K, uL9 ρ 318 0 v.toInt64) = some (.inl (some (.int (iN 0))), (K, uL9 ρ 318 0 v.toInt64)) := s4
    have k13' : tK (uL9 ρ 318 0 v.toInt64) 308 = (13, 0) := k13'
    have m6 : tK (uL9 ρ 318 0 v.toInt64) 1 = (100, L) := m6
    have m4 : tK (uL9 ρ 318 0 v.toInt64) 318 = (105, 1) := m4
    have z0 : vp_in (iN 0) 1 = True := vp_iN (by omega) (by omega)
    have z1 : (iN 0).toNatClampNeg = 0 := iN_n (by omega)
    refine ⟨K, uL9 ρ 318 0 v.toInt64, _, some (.int (iN 0)), some (.int v), ?_, e1, e2, e3⟩
    rw [b_378_143]
    simp only [kd_mk, k1, gd_true, true_and, and_true, and_self, iN_add, v1, w1, v2, w2, rd_I_mk, bd_ret, vl_some, x1, x2, s2, b_378_156, m6, y1, y2, k13', s3, b_378_169, s4, b_378_172, cm7, if_true, m4, z0, z1, uL9_at, lgc, b_378_187]
  | inr x =>
    have hx : x ∈ [0] := hqi
    have hix : [0].idxOf x ≤ 1 := List.idxOf_le_length
    have nz : (iN ([0].idxOf x + 1) = iN 0) = False := (iN_eq (by omega) (by omega)).trans (eq_false (by omega))
    have s2 : CC (d + 41) 334 [.ref 70, .int ((xs (i + 1))), .int ((xs (i + 2))), .ref 318] (I, τ) = some (.inl (some (.int (iN ([0].idxOf x + 1)))), (J, ρ)) := s2
    have s3 : CC (d + 41) 229 [.ref 308, .int ((xs (i + 1))), .int ((xs (i + 2)))] (J, ρ) = some (.inl (some (.int (iN 0))), (K, ρ)) := s3
    have s4 : CC (d + 41) 208 [.ref 308] (K, ρ) = some (.inl (some (.int (iN ([0].idxOf x + 1)))), (K, ρ)) := t_208 (d := d + 41) (n := [0].idxOf x + 1) m1.1 h7
    have k13' : tK ρ 308 = (13, 0) := k13'
    have m6 : tK ρ 1 = (100, L) := m6
    refine ⟨K, ρ, _, some (.int (iN ([0].idxOf x + 1))), some (.int (iN 0)), ?_, e1, e2, e3⟩
    generalize hk : iN ([0].idxOf x + 1) = kk at *
    rw [b_378_143]
    simp only [kd_mk, k1, gd_true, true_and, and_true, and_self, iN_add, v1, w1, v2, w2, rd_I_mk, bd_ret, vl_some, x1, x2, s2, b_378_156, m6, y1, y2, k13', s3, b_378_169, s4, b_378_172, cm7, if_true, nz, if_false, b_378_187]
theorem turn_4 (h : TI L xs I τ B C) (hB : B + 1400 ≤ 900000) (hi : i + 5 ≤ L) (hL : L ≤ 2560) : TT d L i 188 xs I τ B := by
  intro u6 u7
  have k1 := h.2.2.2.2.2.1
  have x0 := h.2.2.2.2.2.2
  have k12 := h.1.1.2.1
  have k13 := h.2.1.1.2.1
  have x1 := x0 (i + 1) (by omega)
  have x2 := x0 (i + 2) (by omega)
  have x3 := x0 (i + 3) (by omega)
  obtain ⟨J, ρ, s1, hp⟩ := p_issueWrit (d := d) h.1 (by omega) (xs (i + 1)) (xs (i + 2)) (xs (i + 3))
  rw [mO_mq] at s1
  have hqi : qin [0, 1, 2] (mq (ft_wri (g_S C) (xs (i + 1)) (xs (i + 2)) (xs (i + 3))) (o_wri (g_S C) (xs (i + 1)) (xs (i + 2)) (xs (i + 3))).1) := qin_mq (l := [105, 97, 115]) in_wri
  have htc : tc [105, 97, 115] (ft_wri (g_S C) (xs (i + 1)) (xs (i + 2)) (xs (i + 3))) = qc [0, 1, 2] (mq (ft_wri (g_S C) (xs (i + 1)) (xs (i + 2)) (xs (i + 3))) (o_wri (g_S C) (xs (i + 1)) (xs (i + 2)) (xs (i + 3))).1) := tc_mq (l := [105, 97, 115]) in_wri (by decide)
  obtain ⟨m1, m2, m3, m4, m5, m6, m7⟩ := TI_mid h hp (Sq_lw (o := 318) (q := (mq (ft_wri (g_S C) (xs (i + 1)) (xs (i + 2)) (xs (i + 3))) (o_wri (g_S C) (xs (i + 1)) (xs (i + 2)) (xs (i + 3))).1)))
  obtain ⟨K, s3, hn⟩ := n_wri (d := d + 1) m1 (by omega) (xs (i + 1)) (xs (i + 2)) (xs (i + 3)) hp.1.2.2.1
  rw [mV_mq] at s3
  rw [htc] at hn
  obtain ⟨e1, e2, e3⟩ := TI_end h (by omega) (by omega) hp (Sq_lw (o := 318) (q := (mq (ft_wri (g_S C) (xs (i + 1)) (xs (i + 2)) (xs (i + 3))) (o_wri (g_S C) (xs (i + 1)) (xs (i + 2)) (xs (i + 3))).1))) hn
  have y1 : J 1 (i + 1) = xs (i + 1) := by rw [m7]; exact x1
  have y2 : J 1 (i + 2) = xs (i + 2) := by rw [m7]; exact x2
  have y3 : J 1 (i + 3) = xs (i + 3) := by rw [m7]; exact x3
  have h7 := hn.2.1
  have kr : tK ρ 318 = (105, 1) := by rw [← Sq_K (Sq_lw (o := 318) (q := (mq (ft_wri (g_S C) (xs (i + 1)) (xs (i + 2)) (xs (i + 3))) (o_wri (g_S C) (xs (i + 1)) (xs (i + 2)) (xs (i + 3))).1)))]; exact m4
  generalize (mq (ft_wri (g_S C) (xs (i + 1)) (xs (i + 2)) (xs (i + 3))) (o_wri (g_S C) (xs (i + 1)) (xs (i + 2)) (xs (i + 3))).1) = Q at *
  have s2 := w_335 (d := d + 40) (o := 318) (xs (i + 1)) (xs (i + 2)) (xs (i + 3)) s1 hqi k12 kr (by omega)
  have k13' := m1.1.2.1
  have v1 : vp_in (iN (i + 1)) L = True := vp_iN (by omega) (by omega)
  have w1 : (iN (i + 1)).toNatClampNeg = i + 1 := iN_n (by omega)
  have v2 : vp_in (iN (i + 2)) L = True := vp_iN (by omega) (by omega)
  have w2 : (iN (i + 2)).toNatClampNeg = i + 2 := iN_n (by omega)
  have v3 : vp_in (iN (i + 3)) L = True := vp_iN (by omega) (by omega)
  have w3 : (iN (i + 3)).toNatClampNeg = i + 3 := iN_n (by omega)
  cases Q with
  | inl v =>
    have s2 : CC (d + 41) 335 [.ref 70, .int ((xs (i + 1))), .int ((xs (i + 2))), .int ((xs (i + 3))), .ref 318] (I, τ) = some (.inl (some (.int (iN 0))), (J, uL9 ρ 318 0 v.toInt64)) := s2
    have s3 : CC (d + 41) 233 [.ref 308, .int ((xs (i + 1))), .int ((xs (i + 2))), .int ((xs (i + 3)))] (J, uL9 ρ 318 0 v.toInt64) = some (.inl (some (.int v)), (K, uL9 ρ 318 0 v.toInt64)) := s3
    have s4 := t_208 (d := d + 41) (n := 0) m1.1 h7
    have s4 : CC (d + 41) 208 [.ref 308] (K, uL9 ρ 318 0 v.toInt64) = some (.inl (some (.int (iN 0))), (K, uL9 ρ 318 0 v.toInt64)) := s4
    have k13' : tK (uL9 ρ 318 0 v.toInt64) 308 = (13, 0) := k13'
    have m6 : tK (uL9 ρ 318 0 v.toInt64) 1 = (100, L) := m6
    have m4 : tK (uL9 ρ 318 0 v.toInt64) 318 = (105, 1) := m4
    have z0 : vp_in (iN 0) 1 = True := vp_iN (by omega) (by omega)
    have z1 : (iN 0).toNatClampNeg = 0 := iN_n (by omega)
    refine ⟨K, uL9 ρ 318 0 v.toInt64, _, some (.int (iN 0)), some (.int v), ?_, e1, e2, e3⟩
    rw [b_378_188]
    simp only [kd_mk, k1, gd_true, true_and, and_true, and_self, iN_add, v1, w1, v2, w2, v3, w3, rd_I_mk, bd_ret, vl_some, x1, x2, x3, s2, b_378_206, m6, y1, y2, y3, k13', s3, b_378_224, s4, b_378_227, cm7, if_true, m4, z0, z1, uL9_at, lgc, b_378_242]
  | inr x =>
    have hx : x ∈ [0, 1, 2] := hqi
    have hix : [0, 1, 2].idxOf x ≤ 3 := List.idxOf_le_length
    have nz : (iN ([0, 1, 2].idxOf x + 1) = iN 0) = False := (iN_eq (by omega) (by omega)).trans (eq_false (by omega))
    have s2 : CC (d + 41) 335 [.ref 70, .int ((xs (i + 1))), .int ((xs (i + 2))), .int ((xs (i + 3))), .ref 318] (I, τ) = some (.inl (some (.int (iN ([0, 1, 2].idxOf x + 1)))), (J, ρ)) := s2
    have s3 : CC (d + 41) 233 [.ref 308, .int ((xs (i + 1))), .int ((xs (i + 2))), .int ((xs (i + 3)))] (J, ρ) = some (.inl (some (.int (iN 0))), (K, ρ)) := s3
    have s4 : CC (d + 41) 208 [.ref 308] (K, ρ) = some (.inl (some (.int (iN ([0, 1, 2].idxOf x + 1)))), (K, ρ)) := t_208 (d := d + 41) (n := [0, 1, 2].idxOf x + 1) m1.1 h7
    have k13' : tK ρ 308 = (13, 0) := k13'
    have m6 : tK ρ 1 = (100, L) := m6
    refine ⟨K, ρ, _, some (.int (iN ([0, 1, 2].idxOf x + 1))), some (.int (iN 0)), ?_, e1, e2, e3⟩
    generalize hk : iN ([0, 1, 2].idxOf x + 1) = kk at *
    rw [b_378_188]
    simp only [kd_mk, k1, gd_true, true_and, and_true, and_self, iN_add, v1, w1, v2, w2, v3, w3, rd_I_mk, bd_ret, vl_some, x1, x2, x3, s2, b_378_206, m6, y1, y2, y3, k13', s3, b_378_224, s4, b_378_227, cm7, if_true, nz, if_false, b_378_242]
theorem turn_5 (h : TI L xs I τ B C) (hB : B + 1400 ≤ 900000) (hi : i + 5 ≤ L) (hL : L ≤ 2560) : TT d L i 243 xs I τ B := by
  intro u6 u7
  have k1 := h.2.2.2.2.2.1
  have x0 := h.2.2.2.2.2.2
  have k12 := h.1.1.2.1
  have k13 := h.2.1.1.2.1
  have x1 := x0 (i + 1) (by omega)
  have x2 := x0 (i + 2) (by omega)
  have x3 := x0 (i + 3) (by omega)
  have x4 := x0 (i + 4) (by omega)
  obtain ⟨J, ρ, s1, hp⟩ := p_issueFollower (d := d) h.1 (by omega) (xs (i + 1)) (xs (i + 2)) (xs (i + 3)) (xs (i + 4))
  rw [mO_mq] at s1
  have hqi : qin [0, 1, 3, 2] (mq (ft_fol (g_S C) (xs (i + 1)) (xs (i + 2)) (xs (i + 3)) (xs (i + 4))) (o_fol (g_S C) (xs (i + 1)) (xs (i + 2)) (xs (i + 3)) (xs (i + 4))).1) := qin_mq (l := [105, 97, 101, 115]) in_fol
  have htc : tc [105, 97, 101, 115] (ft_fol (g_S C) (xs (i + 1)) (xs (i + 2)) (xs (i + 3)) (xs (i + 4))) = qc [0, 1, 3, 2] (mq (ft_fol (g_S C) (xs (i + 1)) (xs (i + 2)) (xs (i + 3)) (xs (i + 4))) (o_fol (g_S C) (xs (i + 1)) (xs (i + 2)) (xs (i + 3)) (xs (i + 4))).1) := tc_mq (l := [105, 97, 101, 115]) in_fol (by decide)
  obtain ⟨m1, m2, m3, m4, m5, m6, m7⟩ := TI_mid h hp (Sq_lw (o := 318) (q := (mq (ft_fol (g_S C) (xs (i + 1)) (xs (i + 2)) (xs (i + 3)) (xs (i + 4))) (o_fol (g_S C) (xs (i + 1)) (xs (i + 2)) (xs (i + 3)) (xs (i + 4))).1)))
  obtain ⟨K, s3, hn⟩ := n_fol (d := d + 1) m1 (by omega) (xs (i + 1)) (xs (i + 2)) (xs (i + 3)) (xs (i + 4)) hp.1.2.2.1
  rw [mV_mq] at s3
  rw [htc] at hn
  obtain ⟨e1, e2, e3⟩ := TI_end h (by omega) (by omega) hp (Sq_lw (o := 318) (q := (mq (ft_fol (g_S C) (xs (i + 1)) (xs (i + 2)) (xs (i + 3)) (xs (i + 4))) (o_fol (g_S C) (xs (i + 1)) (xs (i + 2)) (xs (i + 3)) (xs (i + 4))).1))) hn
  have y1 : J 1 (i + 1) = xs (i + 1) := by rw [m7]; exact x1
  have y2 : J 1 (i + 2) = xs (i + 2) := by rw [m7]; exact x2
  have y3 : J 1 (i + 3) = xs (i + 3) := by rw [m7]; exact x3
  have y4 : J 1 (i + 4) = xs (i + 4) := by rw [m7]; exact x4
  have h7 := hn.2.1
  have kr : tK ρ 318 = (105, 1) := by rw [← Sq_K (Sq_lw (o := 318) (q := (mq (ft_fol (g_S C) (xs (i + 1)) (xs (i + 2)) (xs (i + 3)) (xs (i + 4))) (o_fol (g_S C) (xs (i + 1)) (xs (i + 2)) (xs (i + 3)) (xs (i + 4))).1)))]; exact m4
  generalize (mq (ft_fol (g_S C) (xs (i + 1)) (xs (i + 2)) (xs (i + 3)) (xs (i + 4))) (o_fol (g_S C) (xs (i + 1)) (xs (i + 2)) (xs (i + 3)) (xs (i + 4))).1) = Q at *
  have s2 := w_336 (d := d + 40) (o := 318) (xs (i + 1)) (xs (i + 2)) (xs (i + 3)) (xs (i + 4)) s1 hqi k12 kr (by omega)
  have k13' := m1.1.2.1
  have v1 : vp_in (iN (i + 1)) L = True := vp_iN (by omega) (by omega)
  have w1 : (iN (i + 1)).toNatClampNeg = i + 1 := iN_n (by omega)
  have v2 : vp_in (iN (i + 2)) L = True := vp_iN (by omega) (by omega)
  have w2 : (iN (i + 2)).toNatClampNeg = i + 2 := iN_n (by omega)
  have v3 : vp_in (iN (i + 3)) L = True := vp_iN (by omega) (by omega)
  have w3 : (iN (i + 3)).toNatClampNeg = i + 3 := iN_n (by omega)
  have v4 : vp_in (iN (i + 4)) L = True := vp_iN (by omega) (by omega)
  have w4 : (iN (i + 4)).toNatClampNeg = i + 4 := iN_n (by omega)
  cases Q with
  | inl v =>
    have s2 : CC (d + 41) 336 [.ref 70, .int ((xs (i + 1))), .int ((xs (i + 2))), .int ((xs (i + 3))), .int ((xs (i + 4))), .ref 318] (I, τ) = some (.inl (some (.int (iN 0))), (J, uL9 ρ 318 0 v.toInt64)) := s2
    have s3 : CC (d + 41) 235 [.ref 308, .int ((xs (i + 1))), .int ((xs (i + 2))), .int ((xs (i + 3))), .int ((xs (i + 4)))] (J, uL9 ρ 318 0 v.toInt64) = some (.inl (some (.int v)), (K, uL9 ρ 318 0 v.toInt64)) := s3
    have s4 := t_208 (d := d + 41) (n := 0) m1.1 h7
    have s4 : CC (d + 41) 208 [.ref 308] (K, uL9 ρ 318 0 v.toInt64) = some (.inl (some (.int (iN 0))), (K, uL9 ρ 318 0 v.toInt64)) := s4
    have k13' : tK (uL9 ρ 318 0 v.toInt64) 308 = (13, 0) := k13'
    have m6 : tK (uL9 ρ 318 0 v.toInt64) 1 = (100, L) := m6
    have m4 : tK (uL9 ρ 318 0 v.toInt64) 318 = (105, 1) := m4
    have z0 : vp_in (iN 0) 1 = True := vp_iN (by omega) (by omega)
    have z1 : (iN 0).toNatClampNeg = 0 := iN_n (by omega)
    refine ⟨K, uL9 ρ 318 0 v.toInt64, _, some (.int (iN 0)), some (.int v), ?_, e1, e2, e3⟩
    rw [b_378_243]
    simp only [kd_mk, k1, gd_true, true_and, and_true, and_self, iN_add, v1, w1, v2, w2, v3, w3, v4, w4, rd_I_mk, bd_ret, vl_some, x1, x2, x3, x4, s2, b_378_266, m6, y1, y2, y3, y4, k13', s3, b_378_289, s4, b_378_292, cm7, if_true, m4, z0, z1, uL9_at, lgc, b_378_307]
  | inr x =>
    have hx : x ∈ [0, 1, 3, 2] := hqi
    have hix : [0, 1, 3, 2].idxOf x ≤ 4 := List.idxOf_le_length
    have nz : (iN ([0, 1, 3, 2].idxOf x + 1) = iN 0) = False := (iN_eq (by omega) (by omega)).trans (eq_false (by omega))
    have s2 : CC (d + 41) 336 [.ref 70, .int ((xs (i + 1))), .int ((xs (i + 2))), .int ((xs (i + 3))), .int ((xs (i + 4))), .ref 318] (I, τ) = some (.inl (some (.int (iN ([0, 1, 3, 2].idxOf x + 1)))), (J, ρ)) := s2
    have s3 : CC (d + 41) 235 [.ref 308, .int ((xs (i + 1))), .int ((xs (i + 2))), .int ((xs (i + 3))), .int ((xs (i + 4)))] (J, ρ) = some (.inl (some (.int (iN 0))), (K, ρ)) := s3
    have s4 : CC (d + 41) 208 [.ref 308] (K, ρ) = some (.inl (some (.int (iN ([0, 1, 3, 2].idxOf x + 1)))), (K, ρ)) := t_208 (d := d + 41) (n := [0, 1, 3, 2].idxOf x + 1) m1.1 h7
    have k13' : tK ρ 308 = (13, 0) := k13'
    have m6 : tK ρ 1 = (100, L) := m6
    refine ⟨K, ρ, _, some (.int (iN ([0, 1, 3, 2].idxOf x + 1))), some (.int (iN 0)), ?_, e1, e2, e3⟩
    generalize hk : iN ([0, 1, 3, 2].idxOf x + 1) = kk at *
    rw [b_378_243]
    simp only [kd_mk, k1, gd_true, true_and, and_true, and_self, iN_add, v1, w1, v2, w2, v3, w3, v4, w4, rd_I_mk, bd_ret, vl_some, x1, x2, x3, x4, s2, b_378_266, m6, y1, y2, y3, y4, k13', s3, b_378_289, s4, b_378_292, cm7, if_true, nz, if_false, b_378_307]
theorem turn_6 (h : TI L xs I τ B C) (hB : B + 1400 ≤ 900000) (hi : i + 5 ≤ L) (hL : L ≤ 2560) : TT d L i 308 xs I τ B := by
  intro u6 u7
  have k1 := h.2.2.2.2.2.1
  have x0 := h.2.2.2.2.2.2
  have k12 := h.1.1.2.1
  have k13 := h.2.1.1.2.1
  have x1 := x0 (i + 1) (by omega)
  have x2 := x0 (i + 2) (by omega)
  obtain ⟨J, ρ, s1, hp⟩ := p_addBlocks (d := d) h.1 (by omega) (xs (i + 1)) (xs (i + 2))
  rw [mO_mq] at s1
  have hqi : qin [1, 2] (mq (ft_blk (g_S C) (xs (i + 1)) (xs (i + 2))) (o_blk (g_S C) (xs (i + 1)) (xs (i + 2))).1) := qin_mq (l := [97, 115]) in_blk
  have htc : tc [97, 115] (ft_blk (g_S C) (xs (i + 1)) (xs (i + 2))) = qc [1, 2] (mq (ft_blk (g_S C) (xs (i + 1)) (xs (i + 2))) (o_blk (g_S C) (xs (i + 1)) (xs (i + 2))).1) := tc_mq (l := [97, 115]) in_blk (by decide)
  obtain ⟨m1, m2, m3, m4, m5, m6, m7⟩ := TI_mid h hp (Sq_lw (o := 318) (q := (mq (ft_blk (g_S C) (xs (i + 1)) (xs (i + 2))) (o_blk (g_S C) (xs (i + 1)) (xs (i + 2))).1)))
  obtain ⟨K, s3, hn⟩ := n_blk (d := d + 1) m1 (by omega) (xs (i + 1)) (xs (i + 2)) hp.1.2.2.1
  rw [mV_mq] at s3
  rw [htc] at hn
  obtain ⟨e1, e2, e3⟩ := TI_end h (by omega) (by omega) hp (Sq_lw (o := 318) (q := (mq (ft_blk (g_S C) (xs (i + 1)) (xs (i + 2))) (o_blk (g_S C) (xs (i + 1)) (xs (i + 2))).1))) hn
  have y1 : J 1 (i + 1) = xs (i + 1) := by rw [m7]; exact x1
  have y2 : J 1 (i + 2) = xs (i + 2) := by rw [m7]; exact x2
  have h7 := hn.2.1
  have kr : tK ρ 318 = (105, 1) := by rw [← Sq_K (Sq_lw (o := 318) (q := (mq (ft_blk (g_S C) (xs (i + 1)) (xs (i + 2))) (o_blk (g_S C) (xs (i + 1)) (xs (i + 2))).1)))]; exact m4
  generalize (mq (ft_blk (g_S C) (xs (i + 1)) (xs (i + 2))) (o_blk (g_S C) (xs (i + 1)) (xs (i + 2))).1) = Q at *
  have s2 := w_337 (d := d + 40) (o := 318) (xs (i + 1)) (xs (i + 2)) s1 hqi k12 kr (by omega)
  have k13' := m1.1.2.1
  have v1 : vp_in (iN (i + 1)) L = True := vp_iN (by omega) (by omega)
  have w1 : (iN (i + 1)).toNatClampNeg = i + 1 := iN_n (by omega)
  have v2 : vp_in (iN (i + 2)) L = True := vp_iN (by omega) (by omega)
  have w2 : (iN (i + 2)).toNatClampNeg = i + 2 := iN_n (by omega)
  cases Q with
  | inl v =>
    have s2 : CC (d + 41) 337 [.ref 70, .int ((xs (i + 1))), .int ((xs (i + 2))), .ref 318] (I, τ) = some (.inl (some (.int (iN 0))), (J, uL9 ρ 318 0 v.toInt64)) := s2
    have s3 : CC (d + 41) 240 [.ref 308, .int ((xs (i + 1))), .int ((xs (i + 2)))] (J, uL9 ρ 318 0 v.toInt64) = some (.inl (some (.int v)), (K, uL9 ρ 318 0 v.toInt64)) := s3
    have s4 := t_208 (d := d + 41) (n := 0) m1.1 h7
    have s4 : CC (d + 41) 208 [.ref 308] (K, uL9 ρ 318 0 v.toInt64) = some (.inl (some (.int (iN 0))), (K, uL9 ρ 318 0 v.toInt64)) := s4
    have k13' : tK (uL9 ρ 318 0 v.toInt64) 308 = (13, 0) := k13'
    have m6 : tK (uL9 ρ 318 0 v.toInt64) 1 = (100, L) := m6
    have m4 : tK (uL9 ρ 318 0 v.toInt64) 318 = (105, 1) := m4
    have z0 : vp_in (iN 0) 1 = True := vp_iN (by omega) (by omega)
    have z1 : (iN 0).toNatClampNeg = 0 := iN_n (by omega)
    refine ⟨K, uL9 ρ 318 0 v.toInt64, _, some (.int (iN 0)), some (.int v), ?_, e1, e2, e3⟩
    rw [b_378_308]
    simp only [kd_mk, k1, gd_true, true_and, and_true, and_self, iN_add, v1, w1, v2, w2, rd_I_mk, bd_ret, vl_some, x1, x2, s2, b_378_321, m6, y1, y2, k13', s3, b_378_334, s4, b_378_337, cm7, if_true, m4, z0, z1, uL9_at, lgc, b_378_352]
  | inr x =>
    have hx : x ∈ [1, 2] := hqi
    have hix : [1, 2].idxOf x ≤ 2 := List.idxOf_le_length
    have nz : (iN ([1, 2].idxOf x + 1) = iN 0) = False := (iN_eq (by omega) (by omega)).trans (eq_false (by omega))
    have s2 : CC (d + 41) 337 [.ref 70, .int ((xs (i + 1))), .int ((xs (i + 2))), .ref 318] (I, τ) = some (.inl (some (.int (iN ([1, 2].idxOf x + 1)))), (J, ρ)) := s2
    have s3 : CC (d + 41) 240 [.ref 308, .int ((xs (i + 1))), .int ((xs (i + 2)))] (J, ρ) = some (.inl (some (.int (iN 0))), (K, ρ)) := s3
    have s4 : CC (d + 41) 208 [.ref 308] (K, ρ) = some (.inl (some (.int (iN ([1, 2].idxOf x + 1)))), (K, ρ)) := t_208 (d := d + 41) (n := [1, 2].idxOf x + 1) m1.1 h7
    have k13' : tK ρ 308 = (13, 0) := k13'
    have m6 : tK ρ 1 = (100, L) := m6
    refine ⟨K, ρ, _, some (.int (iN ([1, 2].idxOf x + 1))), some (.int (iN 0)), ?_, e1, e2, e3⟩
    generalize hk : iN ([1, 2].idxOf x + 1) = kk at *
    rw [b_378_308]
    simp only [kd_mk, k1, gd_true, true_and, and_true, and_self, iN_add, v1, w1, v2, w2, rd_I_mk, bd_ret, vl_some, x1, x2, s2, b_378_321, m6, y1, y2, k13', s3, b_378_334, s4, b_378_337, cm7, if_true, nz, if_false, b_378_352]
theorem turn_7 (h : TI L xs I τ B C) (hB : B + 1400 ≤ 900000) (hi : i + 5 ≤ L) (hL : L ≤ 2560) : TT d L i 353 xs I τ B := by
  intro u6 u7
  have k1 := h.2.2.2.2.2.1
  have x0 := h.2.2.2.2.2.2
  have k12 := h.1.1.2.1
  have k13 := h.2.1.1.2.1
  have x1 := x0 (i + 1) (by omega)
  obtain ⟨J, ρ, s1, hp⟩ := p_payBail (d := d) h.1 (by omega) (xs (i + 1))
  rw [mO_mq] at s1
  have hqi : qin [3, 2, 4] (mq (ft_pay (g_S C) (xs (i + 1))) (o_pay (g_S C) (xs (i + 1))).1) := qin_mq (l := [101, 115, 117]) in_pay
  have htc : tc [101, 115, 117] (ft_pay (g_S C) (xs (i + 1))) = qc [3, 2, 4] (mq (ft_pay (g_S C) (xs (i + 1))) (o_pay (g_S C) (xs (i + 1))).1) := tc_mq (l := [101, 115, 117]) in_pay (by decide)
  obtain ⟨m1, m2, m3, m4, m5, m6, m7⟩ := TI_mid h hp (Sq_lw (o := 318) (q := (mq (ft_pay (g_S C) (xs (i + 1))) (o_pay (g_S C) (xs (i + 1))).1)))
  obtain ⟨K, s3, hn⟩ := n_pay (d := d + 1) m1 (by omega) (xs (i + 1)) hp.1.2.2.1
  rw [mV_mq] at s3
  rw [htc] at hn
  obtain ⟨e1, e2, e3⟩ := TI_end h (by omega) (by omega) hp (Sq_lw (o := 318) (q := (mq (ft_pay (g_S C) (xs (i + 1))) (o_pay (g_S C) (xs (i + 1))).1))) hn
  have y1 : J 1 (i + 1) = xs (i + 1) := by rw [m7]; exact x1
  have h7 := hn.2.1
  have kr : tK ρ 318 = (105, 1) := by rw [← Sq_K (Sq_lw (o := 318) (q := (mq (ft_pay (g_S C) (xs (i + 1))) (o_pay (g_S C) (xs (i + 1))).1)))]; exact m4
  generalize (mq (ft_pay (g_S C) (xs (i + 1))) (o_pay (g_S C) (xs (i + 1))).1) = Q at *
  have s2 := w_338 (d := d + 40) (o := 318) (xs (i + 1)) s1 hqi k12 kr (by omega)
  have k13' := m1.1.2.1
  have v1 : vp_in (iN (i + 1)) L = True := vp_iN (by omega) (by omega)
  have w1 : (iN (i + 1)).toNatClampNeg = i + 1 := iN_n (by omega)
  cases Q with
  | inl v =>
    have s2 : CC (d + 41) 338 [.ref 70, .int ((xs (i + 1))), .ref 318] (I, τ) = some (.inl (some (.int (iN 0))), (J, uL9 ρ 318 0 v.toInt64)) := s2
    have s3 : CC (d + 41) 245 [.ref 308, .int ((xs (i + 1)))] (J, uL9 ρ 318 0 v.toInt64) = some (.inl (some (.int v)), (K, uL9 ρ 318 0 v.toInt64)) := s3
    have s4 := t_208 (d := d + 41) (n := 0) m1.1 h7
    have s4 : CC (d + 41) 208 [.ref 308] (K, uL9 ρ 318 0 v.toInt64) = some (.inl (some (.int (iN 0))), (K, uL9 ρ 318 0 v.toInt64)) := s4
    have k13' : tK (uL9 ρ 318 0 v.toInt64) 308 = (13, 0) := k13'
    have m6 : tK (uL9 ρ 318 0 v.toInt64) 1 = (100, L) := m6
    have m4 : tK (uL9 ρ 318 0 v.toInt64) 318 = (105, 1) := m4
    have z0 : vp_in (iN 0) 1 = True := vp_iN (by omega) (by omega)
    have z1 : (iN 0).toNatClampNeg = 0 := iN_n (by omega)
    refine ⟨K, uL9 ρ 318 0 v.toInt64, _, some (.int (iN 0)), some (.int v), ?_, e1, e2, e3⟩
    rw [b_378_353]
    simp only [kd_mk, k1, gd_true, true_and, and_true, and_self, iN_add, v1, w1, rd_I_mk, bd_ret, vl_some, x1, s2, b_378_361, m6, y1, k13', s3, b_378_369, s4, b_378_372, cm7, if_true, m4, z0, z1, uL9_at, lgc, b_378_387]
  | inr x =>
    have hx : x ∈ [3, 2, 4] := hqi
    have hix : [3, 2, 4].idxOf x ≤ 3 := List.idxOf_le_length
    have nz : (iN ([3, 2, 4].idxOf x + 1) = iN 0) = False := (iN_eq (by omega) (by omega)).trans (eq_false (by omega))
    have s2 : CC (d + 41) 338 [.ref 70, .int ((xs (i + 1))), .ref 318] (I, τ) = some (.inl (some (.int (iN ([3, 2, 4].idxOf x + 1)))), (J, ρ)) := s2
    have s3 : CC (d + 41) 245 [.ref 308, .int ((xs (i + 1)))] (J, ρ) = some (.inl (some (.int (iN 0))), (K, ρ)) := s3
    have s4 : CC (d + 41) 208 [.ref 308] (K, ρ) = some (.inl (some (.int (iN ([3, 2, 4].idxOf x + 1)))), (K, ρ)) := t_208 (d := d + 41) (n := [3, 2, 4].idxOf x + 1) m1.1 h7
    have k13' : tK ρ 308 = (13, 0) := k13'
    have m6 : tK ρ 1 = (100, L) := m6
    refine ⟨K, ρ, _, some (.int (iN ([3, 2, 4].idxOf x + 1))), some (.int (iN 0)), ?_, e1, e2, e3⟩
    generalize hk : iN ([3, 2, 4].idxOf x + 1) = kk at *
    rw [b_378_353]
    simp only [kd_mk, k1, gd_true, true_and, and_true, and_self, iN_add, v1, w1, rd_I_mk, bd_ret, vl_some, x1, s2, b_378_361, m6, y1, k13', s3, b_378_369, s4, b_378_372, cm7, if_true, nz, if_false, b_378_387]
theorem turn_8 (h : TI L xs I τ B C) (hB : B + 1400 ≤ 900000) (hi : i + 5 ≤ L) (hL : L ≤ 2560) : TT d L i 388 xs I τ B := by
  intro u6 u7
  have k1 := h.2.2.2.2.2.1
  have x0 := h.2.2.2.2.2.2
  have k12 := h.1.1.2.1
  have k13 := h.2.1.1.2.1
  have x1 := x0 (i + 1) (by omega)
  obtain ⟨J, ρ, s1, hp⟩ := p_hear (d := d) h.1 (by omega) (xs (i + 1))
  rw [mO_mq] at s1
  have hqi : qin [3, 2] (mq (ft_hea (g_S C) (xs (i + 1))) (o_hea (g_S C) (xs (i + 1))).1) := qin_mq (l := [101, 115]) in_hea
  have htc : tc [101, 115] (ft_hea (g_S C) (xs (i + 1))) = qc [3, 2] (mq (ft_hea (g_S C) (xs (i + 1))) (o_hea (g_S C) (xs (i + 1))).1) := tc_mq (l := [101, 115]) in_hea (by decide)
  obtain ⟨m1, m2, m3, m4, m5, m6, m7⟩ := TI_mid h hp (Sq_lw (o := 318) (q := (mq (ft_hea (g_S C) (xs (i + 1))) (o_hea (g_S C) (xs (i + 1))).1)))
  obtain ⟨K, s3, hn⟩ := n_hea (d := d + 1) m1 (by omega) (xs (i + 1)) hp.1.2.2.1
  rw [mV_mq] at s3
  rw [htc] at hn
  obtain ⟨e1, e2, e3⟩ := TI_end h (by omega) (by omega) hp (Sq_lw (o := 318) (q := (mq (ft_hea (g_S C) (xs (i + 1))) (o_hea (g_S C) (xs (i + 1))).1))) hn
  have y1 : J 1 (i + 1) = xs (i + 1) := by rw [m7]; exact x1
  have h7 := hn.2.1
  have kr : tK ρ 318 = (105, 1) := by rw [← Sq_K (Sq_lw (o := 318) (q := (mq (ft_hea (g_S C) (xs (i + 1))) (o_hea (g_S C) (xs (i + 1))).1)))]; exact m4
  generalize (mq (ft_hea (g_S C) (xs (i + 1))) (o_hea (g_S C) (xs (i + 1))).1) = Q at *
  have s2 := w_339 (d := d + 40) (o := 318) (xs (i + 1)) s1 hqi k12 kr (by omega)
  have k13' := m1.1.2.1
  have v1 : vp_in (iN (i + 1)) L = True := vp_iN (by omega) (by omega)
  have w1 : (iN (i + 1)).toNatClampNeg = i + 1 := iN_n (by omega)
  cases Q with
  | inl v =>
    have s2 : CC (d + 41) 339 [.ref 70, .int ((xs (i + 1))), .ref 318] (I, τ) = some (.inl (some (.int (iN 0))), (J, uL9 ρ 318 0 v.toInt64)) := s2
    have s3 : CC (d + 41) 248 [.ref 308, .int ((xs (i + 1)))] (J, uL9 ρ 318 0 v.toInt64) = some (.inl (some (.int v)), (K, uL9 ρ 318 0 v.toInt64)) := s3
    have s4 := t_208 (d := d + 41) (n := 0) m1.1 h7
    have s4 : CC (d + 41) 208 [.ref 308] (K, uL9 ρ 318 0 v.toInt64) = some (.inl (some (.int (iN 0))), (K, uL9 ρ 318 0 v.toInt64)) := s4
    have k13' : tK (uL9 ρ 318 0 v.toInt64) 308 = (13, 0) := k13'
    have m6 : tK (uL9 ρ 318 0 v.toInt64) 1 = (100, L) := m6
    have m4 : tK (uL9 ρ 318 0 v.toInt64) 318 = (105, 1) := m4
    have z0 : vp_in (iN 0) 1 = True := vp_iN (by omega) (by omega)
    have z1 : (iN 0).toNatClampNeg = 0 := iN_n (by omega)
    refine ⟨K, uL9 ρ 318 0 v.toInt64, _, some (.int (iN 0)), some (.int v), ?_, e1, e2, e3⟩
    rw [b_378_388]
    simp only [kd_mk, k1, gd_true, true_and, and_true, and_self, iN_add, v1, w1, rd_I_mk, bd_ret, vl_some, x1, s2, b_378_396, m6, y1, k13', s3, b_378_404, s4, b_378_407, cm7, if_true, m4, z0, z1, uL9_at, lgc, b_378_422]
  | inr x =>
    have hx : x ∈ [3, 2] := hqi
    have hix : [3, 2].idxOf x ≤ 2 := List.idxOf_le_length
    have nz : (iN ([3, 2].idxOf x + 1) = iN 0) = False := (iN_eq (by omega) (by omega)).trans (eq_false (by omega))
    have s2 : CC (d + 41) 339 [.ref 70, .int ((xs (i + 1))), .ref 318] (I, τ) = some (.inl (some (.int (iN ([3, 2].idxOf x + 1)))), (J, ρ)) := s2
    have s3 : CC (d + 41) 248 [.ref 308, .int ((xs (i + 1)))] (J, ρ) = some (.inl (some (.int (iN 0))), (K, ρ)) := s3
    have s4 : CC (d + 41) 208 [.ref 308] (K, ρ) = some (.inl (some (.int (iN ([3, 2].idxOf x + 1)))), (K, ρ)) := t_208 (d := d + 41) (n := [3, 2].idxOf x + 1) m1.1 h7
    have k13' : tK ρ 308 = (13, 0) := k13'
    have m6 : tK ρ 1 = (100, L) := m6
    refine ⟨K, ρ, _, some (.int (iN ([3, 2].idxOf x + 1))), some (.int (iN 0)), ?_, e1, e2, e3⟩
    generalize hk : iN ([3, 2].idxOf x + 1) = kk at *
    rw [b_378_388]
    simp only [kd_mk, k1, gd_true, true_and, and_true, and_self, iN_add, v1, w1, rd_I_mk, bd_ret, vl_some, x1, s2, b_378_396, m6, y1, k13', s3, b_378_404, s4, b_378_407, cm7, if_true, nz, if_false, b_378_422]
theorem turn_9 (h : TI L xs I τ B C) (hB : B + 1400 ≤ 900000) (hi : i + 5 ≤ L) (hL : L ≤ 2560) : TT d L i 423 xs I τ B := by
  intro u6 u7
  have k1 := h.2.2.2.2.2.1
  have x0 := h.2.2.2.2.2.2
  have k12 := h.1.1.2.1
  have k13 := h.2.1.1.2.1
  have x1 := x0 (i + 1) (by omega)
  obtain ⟨J, ρ, s1, hp⟩ := p_passNights (d := d) h.1 (by omega) (xs (i + 1))
  rw [mO_mq] at s1
  have hqi : qin [1] (mq (ft_nig (xs (i + 1))) (o_nig (g_S C) (xs (i + 1))).1) := qin_mq (l := [97]) in_nig
  have htc : tc [97] (ft_nig (xs (i + 1))) = qc [1] (mq (ft_nig (xs (i + 1))) (o_nig (g_S C) (xs (i + 1))).1) := tc_mq (l := [97]) in_nig (by decide)
  obtain ⟨m1, m2, m3, m4, m5, m6, m7⟩ := TI_mid h hp (Sq_lw (o := 318) (q := (mq (ft_nig (xs (i + 1))) (o_nig (g_S C) (xs (i + 1))).1)))
  obtain ⟨K, s3, hn⟩ := n_nig (d := d + 1) m1 (by omega) (xs (i + 1)) hp.1.2.2.1
  rw [mV_mq] at s3
  rw [htc] at hn
  obtain ⟨e1, e2, e3⟩ := TI_end h (by omega) (by omega) hp (Sq_lw (o := 318) (q := (mq (ft_nig (xs (i + 1))) (o_nig (g_S C) (xs (i + 1))).1))) hn
  have y1 : J 1 (i + 1) = xs (i + 1) := by rw [m7]; exact x1
  have h7 := hn.2.1
  have kr : tK ρ 318 = (105, 1) := by rw [← Sq_K (Sq_lw (o := 318) (q := (mq (ft_nig (xs (i + 1))) (o_nig (g_S C) (xs (i + 1))).1)))]; exact m4
  generalize (mq (ft_nig (xs (i + 1))) (o_nig (g_S C) (xs (i + 1))).1) = Q at *
  have s2 := w_340 (d := d + 40) (o := 318) (xs (i + 1)) s1 hqi k12 kr (by omega)
  have k13' := m1.1.2.1
  have v1 : vp_in (iN (i + 1)) L = True := vp_iN (by omega) (by omega)
  have w1 : (iN (i + 1)).toNatClampNeg = i + 1 := iN_n (by omega)
  cases Q with
  | inl v =>
    have s2 : CC (d + 41) 340 [.ref 70, .int ((xs (i + 1))), .ref 318] (I, τ) = some (.inl (some (.int (iN 0))), (J, uL9 ρ 318 0 v.toInt64)) := s2
    have s3 : CC (d + 41) 255 [.ref 308, .int ((xs (i + 1)))] (J, uL9 ρ 318 0 v.toInt64) = some (.inl (some (.int v)), (K, uL9 ρ 318 0 v.toInt64)) := s3
    have s4 := t_208 (d := d + 41) (n := 0) m1.1 h7
    have s4 : CC (d + 41) 208 [.ref 308] (K, uL9 ρ 318 0 v.toInt64) = some (.inl (some (.int (iN 0))), (K, uL9 ρ 318 0 v.toInt64)) := s4
    have k13' : tK (uL9 ρ 318 0 v.toInt64) 308 = (13, 0) := k13'
    have m6 : tK (uL9 ρ 318 0 v.toInt64) 1 = (100, L) := m6
    have m4 : tK (uL9 ρ 318 0 v.toInt64) 318 = (105, 1) := m4
    have z0 : vp_in (iN 0) 1 = True := vp_iN (by omega) (by omega)
    have z1 : (iN 0).toNatClampNeg = 0 := iN_n (by omega)
    refine ⟨K, uL9 ρ 318 0 v.toInt64, _, some (.int (iN 0)), some (.int v), ?_, e1, e2, e3⟩
    rw [b_378_423]
    simp only [kd_mk, k1, gd_true, true_and, and_true, and_self, iN_add, v1, w1, rd_I_mk, bd_ret, vl_some, x1, s2, b_378_431, m6, y1, k13', s3, b_378_439, s4, b_378_442, cm7, if_true, m4, z0, z1, uL9_at, lgc, b_378_457]
  | inr x =>
    have hx : x ∈ [1] := hqi
    have hix : [1].idxOf x ≤ 1 := List.idxOf_le_length
    have nz : (iN ([1].idxOf x + 1) = iN 0) = False := (iN_eq (by omega) (by omega)).trans (eq_false (by omega))
    have s2 : CC (d + 41) 340 [.ref 70, .int ((xs (i + 1))), .ref 318] (I, τ) = some (.inl (some (.int (iN ([1].idxOf x + 1)))), (J, ρ)) := s2
    have s3 : CC (d + 41) 255 [.ref 308, .int ((xs (i + 1)))] (J, ρ) = some (.inl (some (.int (iN 0))), (K, ρ)) := s3
    have s4 : CC (d + 41) 208 [.ref 308] (K, ρ) = some (.inl (some (.int (iN ([1].idxOf x + 1)))), (K, ρ)) := t_208 (d := d + 41) (n := [1].idxOf x + 1) m1.1 h7
    have k13' : tK ρ 308 = (13, 0) := k13'
    have m6 : tK ρ 1 = (100, L) := m6
    refine ⟨K, ρ, _, some (.int (iN ([1].idxOf x + 1))), some (.int (iN 0)), ?_, e1, e2, e3⟩
    generalize hk : iN ([1].idxOf x + 1) = kk at *
    rw [b_378_423]
    simp only [kd_mk, k1, gd_true, true_and, and_true, and_self, iN_add, v1, w1, rd_I_mk, bd_ret, vl_some, x1, s2, b_378_431, m6, y1, k13', s3, b_378_439, s4, b_378_442, cm7, if_true, nz, if_false, b_378_457]
end TN
