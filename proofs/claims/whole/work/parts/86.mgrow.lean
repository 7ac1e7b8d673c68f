/-! THE MODEL: what a command leaves is as it must be -/
section MW
variable {I : qq_I} {τ : qq_R} {m B : Nat} {S : sS}
theorem w_P (hw : wS B S) (hB : B + 60 ≤ 900000) {P : sP} (hP : wP P) (hn : p_ns (s_P S) ≤ p_ns P) : wS (B + 60) (sPl S P) := wS_up (wS_P hw hP hn) (by omega) hB
theorem w_ped (hw : wS B S) (hB : B + 60 ≤ 900000) (hf : ft_ped S = 45) : wS (B + 60) (o_ped S).2 := by
  have hn : p_np (s_P S) < 8 := by
    unfold ft_ped at hf
    by_cases q : p_np (s_P S) < 8
    · exact q
    · rw [if_neg q] at hf; omega
  exact w_P hw hB (wP_ped hw.2.1 hn) (Nat.le_refl _)
theorem w_arr (hw : wS B S) (hB : B + 60 ≤ 900000) {x y : Int32} (hf : ft_arr S x y = 45) : wS (B + 60) (o_arr S x y).2 := by
  have w1 := hw.2.1.1
  have hn : inN (p_np (s_P S)) x = true ∧ inN (p_np (s_P S)) y = true := by
    unfold ft_arr at hf
    by_cases q : (inN (p_np (s_P S)) x && inN (p_np (s_P S)) y) = true
    · exact Bool.and_eq_true_iff.mp q
    · rw [if_neg q] at hf; omega
  obtain ⟨j, hj, rfl⟩ := (inN_iff (by omega)).mp hn.1
  obtain ⟨k, hk, rfl⟩ := (inN_iff (by omega)).mp hn.2
  unfold o_arr
  rw [tn_iN (by omega), tn_iN (by omega)]
  exact w_P hw hB (wP_arr hw.2.1 hk) (Nat.le_refl _)
theorem w_sta (hw : wS B S) (hB : B + 60 ≤ 900000) {x y : Int32} (hf : ft_sta S x y = 45) : wS (B + 60) (o_sta S x y).2 := by
  have w1 := hw.2.1.1
  have w2 := hw.2.1.2.1
  unfold ft_sta at hf
  by_cases q : inN (p_np (s_P S)) x = false
  · rw [if_pos q] at hf; omega
  · rw [if_neg q] at hf
    by_cases q2 : inB 1 99 y = false
    · rw [if_pos q2] at hf; omega
    · rw [if_neg q2] at hf
      by_cases q3 : p_ns (s_P S) < 6
      · rw [if_pos q3] at hf
        obtain ⟨j, hj, rfl⟩ := (inN_iff (by omega)).mp (bt_nf q)
        obtain ⟨k, hk1, hk2, rfl⟩ := (inB_iff (by omega) (by omega)).mp (bt_nf q2)
        rw [iN_n (by omega)] at hf
        have hon : onP (s_P S) j = none := by
          by_cases z : onP (s_P S) j = none
          · exact z
          · rw [if_neg z] at hf; omega
        unfold o_sta
        rw [tn_iN (by omega), tn_iN (by omega)]
        exact w_P hw hB (wP_sta hw.2.1 hj q3 hk1 hk2 hon) (Nat.le_succ _)
      · rw [if_neg q3] at hf; omega
theorem w_hom (hw : wS B S) (hB : B + 60 ≤ 900000) {x y : Int32} (hf : ft_hom S x y = 45) : wS (B + 60) (o_hom S x y).2 := by
  have w1 := hw.2.1.1
  have w2 := hw.2.1.2.1
  have hn : inN (p_ns (s_P S)) x = true ∧ inN (p_np (s_P S)) y = true := by
    unfold ft_hom at hf
    by_cases q : (inN (p_ns (s_P S)) x && inN (p_np (s_P S)) y) = true
    · exact Bool.and_eq_true_iff.mp q
    · rw [if_neg q] at hf; omega
  obtain ⟨j, hj, rfl⟩ := (inN_iff (by omega)).mp hn.1
  obtain ⟨k, hk, rfl⟩ := (inN_iff (by omega)).mp hn.2
  unfold o_hom
  rw [tn_iN (by omega), tn_iN (by omega)]
  exact w_P hw hB (wP_hom hw.2.1 hk) (Nat.le_refl _)
theorem w_wri (hw : wS B S) (hB : B + 60 ≤ 900000) {x n y : Int32} (hf : ft_wri S x n y = 45) : wS (B + 60) (o_wri S x n y).2 := by
  have w2 := hw.2.1.2.1
  have ha : ft_arg S x n y = 45 := by
    unfold ft_wri at hf
    by_cases q : ft_arg S x n y = 45
    · exact q
    · rw [if_neg q] at hf; exact hf
  have hn : un (s_U S) < 8 := by
    unfold ft_wri at hf
    rw [if_pos ha] at hf
    by_cases q : un (s_U S) < 8
    · exact q
    · rw [if_neg q] at hf; omega
  obtain ⟨⟨j, hj, rfl⟩, ⟨k, hk, rfl⟩, e, he1, he2, rfl⟩ := arg_ok hw ha
  unfold o_wri
  rw [tn_iN (by omega), tn_iN (by omega), tn_iN (by omega)]
  exact wS_op hw hB hn hj hk he1 he2 (Or.inl rfl)
theorem w_fol (hw : wS B S) (hB : B + 60 ≤ 900000) {x n y c : Int32} (hf : ft_fol S x n y c = 45) : wS (B + 60) (o_fol S x n y c).2 := by
  have w2 := hw.2.1.2.1
  have ha : ft_arg S x n y = 45 := by
    unfold ft_fol at hf
    by_cases q : ft_arg S x n y = 45
    · exact q
    · rw [if_neg q] at hf; exact hf
  unfold ft_fol at hf
  rw [if_pos ha] at hf
  cases hc : fiX (s_U S) c with
  | none => rw [hc, if_pos rfl] at hf; omega
  | some p =>
    have hp := fiX_lt hc
    have hpe := (ff_some _ _ _ hc).2.2.1
    have hpe : c = iN (w_id (ug (s_U S) p)) := (beq_iff_eq.mp hpe).symm
    rw [hc, if_neg (by simp)] at hf
    have hn : un (s_U S) < 8 := by
      by_cases q : un (s_U S) < 8
      · exact q
      · rw [if_neg q] at hf; omega
    obtain ⟨⟨j, hj, rfl⟩, ⟨k, hk, rfl⟩, e, he1, he2, rfl⟩ := arg_ok hw ha
    have hid := (hw.2.2.1.2.2.2 p hp).1
    have hux := hw.2.2.1.2.1
    subst hpe
    unfold o_fol
    rw [tn_iN (by omega), tn_iN (by omega), tn_iN (by omega), tn_iN (by omega)]
    exact wS_op hw hB hn hj hk he1 he2 (Or.inr ⟨p, hp, rfl⟩)
theorem w_blk (hw : wS B S) (hB : B + 60 ≤ 900000) {x y : Int32} (hf : ft_blk S x y = 45) : wS (B + 60) (o_blk S x y).2 := by
  unfold ft_blk at hf
  by_cases q : (inB 1 20 x && inB 1 9 y) = true
  · rw [if_pos q] at hf
    obtain ⟨z1, z2⟩ := Bool.and_eq_true_iff.mp q
    obtain ⟨j, hj1, hj2, rfl⟩ := (inB_iff (by omega) (by omega)).mp z1
    obtain ⟨k, hk1, hk2, rfl⟩ := (inB_iff (by omega) (by omega)).mp z2
    unfold o_blk
    rw [tn_iN (by omega), tn_iN (by omega)]
    obtain ⟨q1, q2, q3, q4, q5, q6, q7, q8, q9⟩ := hw
    refine ⟨by omega, q2, q3, by show unx (s_U S) ≤ _; omega, by show s_ni S ≤ _; omega, fun i hi => ⟨(q6 i hi).1, by have := (q6 i hi).2; show w_la (ug (s_U S) i) ≤ _; omega⟩, fun w hw => ?_, q8, ?_⟩
    · have := q7 w hw
      have := q7 j (by omega)
      show fu (m_bl (s_M S)) j (m_bl (s_M S) j + k) w + 60 * un (s_U S) ≤ B + 60
      by_cases e : w = j
      · rw [e, fu_at]; omega
      · rw [fu_ne e]; omega
    · show m_tr (s_M S) + sA (fun w => iN (fu (m_bl (s_M S)) j (m_bl (s_M S) j + k) w)) 20 = m_ad (s_M S) + iN j * iN k
      have h5 := sA_fu (f := fun v => iN (m_bl (s_M S) v)) (w := j) (c := iN k) 20 hj1 hj2
      have h6 : (fun w => iN (fu (m_bl (s_M S)) j (m_bl (s_M S) j + k) w)) = fu (fun v => iN (m_bl (s_M S) v)) j (iN (m_bl (s_M S) j) + iN k) := by
        funext v
        by_cases e : v = j
        · rw [e, fu_at, fu_at, iN_add]
        · rw [fu_ne e, fu_ne e]
      rw [h6, h5, ← q9, Int32.add_assoc]
  · rw [if_neg q] at hf; omega
theorem w_pay (hw : wS B S) (hB : B + 60 ≤ 900000) {x : Int32} (hf : ft_pay S x = 45) : wS (B + 60) (o_pay S x).2 := by
  unfold ft_pay at hf
  unfold o_pay
  cases hc : fiX (s_U S) x with
  | none =>
    rw [hc] at hf
    have hf : 101 = 45 := hf
    omega
  | some k =>
    rw [hc] at hf
    have hf : (if w_pd (ug (s_U S) k) = 0 then (if fw (m_bl (s_M S)) 20 (w_ba (ug (s_U S) k)) = 1000 then 117 else 45) else 115) = 45 := hf
    have hfw : fw (m_bl (s_M S)) 20 (w_ba (ug (s_U S) k)) ≠ 1000 := fun z => by
      rw [if_pos z] at hf
      split at hf <;> omega
    exact wS_up (wS_pay hw (fiX_lt hc) hfw) (by omega) hB
theorem w_heN (hw : wS B S) {k : Nat} (hk : k < un (s_U S)) : wS B (heN S k) := by
  obtain ⟨x1, x2, x3, x4, x5, x6, x7, x8, x9⟩ := wS_cl (wS_heQ hw hk) (k := k) hk
  obtain ⟨v1, v2, v3, v4, v5, v6, v7, v8, v9⟩ := hw
  refine ⟨v1, x2, x3, x4, x5, x6, fun w hw => ?_, Nat.le_refl _, v9⟩
  have h1 := v7 w hw
  show m_bl (s_M S) w + 60 * un (su_close (s_U S) k) ≤ B
  rw [un_close hk]
  omega
theorem w_hea (hL : L_N τ m) (hR : R_F (I (m + 1)) S) (hw : wS B S) (hB : B + 60 ≤ 900000) {x : Int32} : wS (B + 60) (o_hea S x).2 := by
  unfold o_hea
  cases hc : fiX (s_U S) x with
  | none => exact wS_up hw (by omega) hB
  | some k =>
    have hk := fiX_lt hc
    show wS (B + 60) (heS S k)
    unfold heS
    split
    · obtain ⟨I', -, -, t3, -⟩ := c_dismiss (d := 0) (I := up_2 I (m + 1) 1 (iN (s_ni S))) (τ := τ) (m := m) (S := heT S) hL (R_F_1 hR hw.2.1.1 hw.2.1.2.1) (wS_heT hw) hk
      exact wS_up t3 (by omega) hB
    · exact wS_up (w_heN hw hk) (by omega) hB
theorem w_npN (hL : L_N τ m) (hR : R_F (I (m + 1)) S) (hw : wS B S) : ∀ n, B + n ≤ 900000 → wS (B + n) (npN n S).1 ∧ ∃ J : qq_I, R_F (J (m + 1)) (npN n S).1 := by
  intro n
  induction n with
  | zero => intro _; exact ⟨hw, I, hR⟩
  | succ n ih =>
    intro hB
    obtain ⟨h1, J, h2⟩ := ih (by omega)
    obtain ⟨K, -, t2, t3, -⟩ := c_nightPasses (d := 0) hL h2 h1 (by omega)
    exact ⟨t3, K, t2⟩
theorem w_nig (hL : L_N τ m) (hR : R_F (I (m + 1)) S) (hw : wS B S) (hB : B + 60 ≤ 900000) {n : Int32} (hf : ft_nig n = 45) : wS (B + 60) (o_nig S n).2 := by
  unfold ft_nig at hf
  by_cases q : inB 1 50 n = true
  · obtain ⟨k, h1, h2, rfl⟩ := (inB_iff (by omega) (by omega)).mp q
    unfold o_nig
    rw [tn_iN (by omega)]
    exact wS_up (w_npN hL hR hw k (by omega)).1 (by omega) hB
  · rw [if_neg q] at hf; omega
end MW
