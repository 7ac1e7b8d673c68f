/-! COMMANDS UPON A REALM, once they are not at fault -/
theorem bt_nf {b : Bool} (h : ¬ b = false) : b = true := by cases b <;> simp_all
def sPl (S : sS) (P : sP) : sS := (P, s_U S, s_M S, s_N S)
def tn (x : Int32) : Nat := x.toNatClampNeg
theorem tn_iN {n : Nat} (h : n < 2147483648) : tn (iN n) = n := iN_n h
def o_ped (S : sS) : Int32 × sS := (iN (p_np (s_P S)), sPl S (sp_ped (s_P S)))
def o_arr (S : sS) (x y : Int32) : Int32 × sS := (iN (p_ar (s_P S) (tn x)), sPl S (sp_arr (s_P S) (tn x) (tn y)))
def o_sta (S : sS) (x w : Int32) : Int32 × sS := (iN (p_ns (s_P S)), sPl S (sp_sta (s_P S) (tn x) (tn w)))
def o_hom (S : sS) (x y : Int32) : Int32 × sS := (iN (p_ho (s_P S) (tn x)), sPl S (sp_hom (s_P S) (tn x) (tn y)))
def o_wri (S : sS) (x n b : Int32) : Int32 × sS := (iN (unx (s_U S)), opS S (tn x) (tn n) (tn b) 0)
def o_fol (S : sS) (x n b c : Int32) : Int32 × sS := (iN (unx (s_U S)), opS S (tn x) (tn n) (tn b) (tn c + 1))
def o_blk (S : sS) (w c : Int32) : Int32 × sS := (iN (m_bl (s_M S) (tn w) + tn c), (s_P S, s_U S, sm_put (s_M S) (tn w) (tn c), s_N S))
def o_pay (S : sS) (x : Int32) : Int32 × sS := match fiX (s_U S) x with
  | none => (iN 0, S)
  | some k => (iN (fw (m_bl (s_M S)) 20 (w_ba (ug (s_U S) k))), paS S k)
def o_hea (S : sS) (x : Int32) : Int32 × sS := match fiX (s_U S) x with
  | none => (iN 0, S)
  | some k => (iN (heC S k), heS S k)
def o_nig (S : sS) (n : Int32) : Int32 × sS := (iN (npN (tn n) S).2, (npN (tn n) S).1)
theorem wS_P {B : Nat} {S : sS} {P : sP} (h : wS B S) (hP : wP P) (hn : p_ns (s_P S) ≤ p_ns P) : wS B (sPl S P) := by
  obtain ⟨q1, q2, q3, q4, q5, q6, q7, q8, q9⟩ := h
  exact ⟨q1, hP, q3, q4, q5, fun k hk => ⟨by show _ < p_ns P; have := (q6 k hk).1; show w_of (ug (s_U S) k) < p_ns P; omega, (q6 k hk).2⟩, q7, q8, q9⟩
theorem R_R_P {I I' : qq_I} {b : Nat} {S : sS} {P : sP} (h : R_R I b S) (hP : R_P I' (b + 1) P) (hF : Fr (b + 1) 6 I I') : R_R I' b (sPl S P) := by
  obtain ⟨h1, h2, h3, h4, h5, h6, h7, h8⟩ := h
  refine ⟨hP, R_U_same h2 (fun a _ _ => hF a (by omega)), R_M_same h3 (fun a _ _ => hF a (by omega)), ?_, ?_, ?_, ?_, ?_⟩ <;> rw [hF b (by omega)] <;> assumption
/-- what a command upon a realm leaves -/
def RO (I : qq_I) (b t B : Nat) (I' : qq_I) (S' : sS) : Prop := R_R I' b S' ∧ wS (B + 60) S' ∧ ∀ a, (a < b ∨ b + 17 ≤ a) → (a < t + 2 ∨ t + 23 ≤ a) → I' a = I a
theorem RO_P {I I' : qq_I} {b t B : Nat} {S : sS} {P : sP} (h : R_R I b S) (hw : wS B S) (hB : B + 660 ≤ 900000) (hP : R_P I' (b + 1) P) (hF : Fr (b + 1) 6 I I') (hwP : wP P) (hn : p_ns (s_P S) ≤ p_ns P) : RO I b t B I' (sPl S P) :=
  ⟨R_R_P h hP hF, wS_up (wS_P hw hwP hn) (by omega) (by omega), fun a ha _ => hF a (by omega)⟩
section OP
variable {d : Nat} {I : qq_I} {τ : qq_R} {b t : Nat} {S : sS} {B : Nat}
theorem r_ped (hL : L_R τ b) (hR : R_R I b S) (hw : wS B S) (hB : B + 660 ≤ 900000) (hf : ft_ped S = 45) :
    ∃ I', CC d 62 [.ref (b + 1)] (I, τ) = some (.inl (some (.int (o_ped S).1)), (I', τ)) ∧ RO I b t B I' (o_ped S).2 := by
  have hn : p_np (s_P S) < 8 := by
    unfold ft_ped at hf
    by_cases q : p_np (s_P S) < 8
    · exact q
    · rw [if_neg q] at hf; omega
  obtain ⟨I', s1, s2, s3⟩ := c_putPedestal (d := d) hL.2.2.2.2.2.1 hR.1 hw.2.1 hn
  exact ⟨I', s1, RO_P hR hw hB s2 s3 (wP_ped hw.2.1 hn) (Nat.le_refl _)⟩
theorem r_arr (hL : L_R τ b) (hR : R_R I b S) (hw : wS B S) (hB : B + 660 ≤ 900000) {x y : Int32} (hf : ft_arr S x y = 45) :
    ∃ I', CC d 63 [.ref (b + 1), .int x, .int y] (I, τ) = some (.inl (some (.int (o_arr S x y).1)), (I', τ)) ∧ RO I b t B I' (o_arr S x y).2 := by
  have w1 := hw.2.1.1
  have hn : inN (p_np (s_P S)) x = true ∧ inN (p_np (s_P S)) y = true := by
    unfold ft_arr at hf
    by_cases q : (inN (p_np (s_P S)) x && inN (p_np (s_P S)) y) = true
    · exact Bool.and_eq_true_iff.mp q
    · rw [if_neg q] at hf; omega
  obtain ⟨j, hj, rfl⟩ := (inN_iff (by omega)).mp hn.1
  obtain ⟨k, hk, rfl⟩ := (inN_iff (by omega)).mp hn.2
  obtain ⟨I', s1, s2, s3⟩ := c_turnArrow (d := d) hL.2.2.2.2.2.1 hR.1 hw.2.1 hj hk
  unfold o_arr
  rw [tn_iN (by omega), tn_iN (by omega)]
  exact ⟨I', s1, RO_P hR hw hB s2 s3 (wP_arr hw.2.1 hk) (Nat.le_refl _)⟩
theorem r_sta (hL : L_R τ b) (hR : R_R I b S) (hw : wS B S) (hB : B + 660 ≤ 900000) {x y : Int32} (hf : ft_sta S x y = 45) :
    ∃ I', CC d 64 [.ref (b + 1), .int x, .int y] (I, τ) = some (.inl (some (.int (o_sta S x y).1)), (I', τ)) ∧ RO I b t B I' (o_sta S x y).2 := by
  have w1 := hw.2.1.1
  have w2 := hw.2.1.2.1
  unfold ft_sta at hf
  by_cases q : inN (p_np (s_P S)) x = false
  · rw [if_pos q] at hf; omega
  · rw [if_neg q] at hf
    by_cases q2 : inB 1 99 y = false
    · rw [if_pos q2] at hf; omega
    · rw [if_neg q2] at hf
      by_cases q3 : p_ns (s_P S) < 6
      · rw [if_pos q3] at hf
        obtain ⟨j, hj, rfl⟩ := (inN_iff (by omega)).mp (bt_nf q)
        obtain ⟨k, hk1, hk2, rfl⟩ := (inB_iff (by omega) (by omega)).mp (bt_nf q2)
        rw [iN_n (by omega)] at hf
        have hon : onP (s_P S) j = none := by
          by_cases z : onP (s_P S) j = none
          · exact z
          · rw [if_neg z] at hf; omega
        obtain ⟨I', s1, s2, s3⟩ := c_putStatue (d := d) hL.2.2.2.2.2.1 hR.1 hw.2.1 hj q3 hk2
        unfold o_sta
        rw [tn_iN (by omega), tn_iN (by omega)]
        exact ⟨I', s1, RO_P hR hw hB s2 s3 (wP_sta hw.2.1 hj q3 hk1 hk2 hon) (Nat.le_succ _)⟩
      · rw [if_neg q3] at hf; omega
theorem r_hom (hL : L_R τ b) (hR : R_R I b S) (hw : wS B S) (hB : B + 660 ≤ 900000) {x y : Int32} (hf : ft_hom S x y = 45) :
    ∃ I', CC d 65 [.ref (b + 1), .int x, .int y] (I, τ) = some (.inl (some (.int (o_hom S x y).1)), (I', τ)) ∧ RO I b t B I' (o_hom S x y).2 := by
  have w1 := hw.2.1.1
  have w2 := hw.2.1.2.1
  have hn : inN (p_ns (s_P S)) x = true ∧ inN (p_np (s_P S)) y = true := by
    unfold ft_hom at hf
    by_cases q : (inN (p_ns (s_P S)) x && inN (p_np (s_P S)) y) = true
    · exact Bool.and_eq_true_iff.mp q
    · rw [if_neg q] at hf; omega
  obtain ⟨j, hj, rfl⟩ := (inN_iff (by omega)).mp hn.1
  obtain ⟨k, hk, rfl⟩ := (inN_iff (by omega)).mp hn.2
  obtain ⟨I', s1, s2, s3⟩ := c_giveHome (d := d) hL.2.2.2.2.2.1 hR.1 hw.2.1 hj hk
  unfold o_hom
  rw [tn_iN (by omega), tn_iN (by omega)]
  exact ⟨I', s1, RO_P hR hw hB s2 s3 (wP_hom hw.2.1 hk) (Nat.le_refl _)⟩
theorem arg_ok {x n y : Int32} (hw : wS B S) (hf : ft_arg S x n y = 45) : (∃ j, j < p_ns (s_P S) ∧ x = iN j) ∧ (∃ k, k ≤ 20 ∧ n = iN k) ∧ ∃ c, 1 ≤ c ∧ c ≤ 60 ∧ y = iN c := by
  have w2 := hw.2.1.2.1
  unfold ft_arg at hf
  by_cases q : inN (p_ns (s_P S)) x = false
  · rw [if_pos q] at hf; omega
  · rw [if_neg q] at hf
    by_cases q2 : (inB 0 20 n && inB 1 60 y) = true
    · obtain ⟨z1, z2⟩ := Bool.and_eq_true_iff.mp q2
      refine ⟨(inN_iff (by omega)).mp (bt_nf q), ?_, (inB_iff (by omega) (by omega)).mp z2⟩
      obtain ⟨k, -, h2, h3⟩ := (inB_iff (by omega) (by omega)).mp z1
      exact ⟨k, h2, h3⟩
    · rw [if_neg q2] at hf; omega
theorem r_wri (hL : L_R τ b) (hR : R_R I b S) (hw : wS B S) (hB : B + 660 ≤ 900000) {x n y : Int32} (hf : ft_wri S x n y = 45) :
    ∃ I', CC (d + 1) 83 [.ref b, .int x, .int n, .int y, .int m1] (I, τ) = some (.inl (some (.int (o_wri S x n y).1)), (I', τ)) ∧ RO I b t B I' (o_wri S x n y).2 := by
  have w2 := hw.2.1.2.1
  have ha : ft_arg S x n y = 45 := by
    unfold ft_wri at hf
    by_cases q : ft_arg S x n y = 45
    · exact q
    · rw [if_neg q] at hf; exact hf
  have hn : un (s_U S) < 8 := by
    unfold ft_wri at hf
    rw [if_pos ha] at hf
    by_cases q : un (s_U S) < 8
    · exact q
    · rw [if_neg q] at hf; omega
  obtain ⟨⟨j, hj, rfl⟩, ⟨k, hk, rfl⟩, e, he1, he2, rfl⟩ := arg_ok hw ha
  obtain ⟨I', s1, s2, s3⟩ := c_openWrit (d := d) (ca := 0) hL hR hw (by omega) hn hj hk he1 he2
  unfold o_wri
  rw [tn_iN (by omega), tn_iN (by omega), tn_iN (by omega)]
  exact ⟨I', s1, s2, wS_op hw (by omega) hn hj hk he1 he2 (Or.inl rfl), fun a h1 _ => s3 a h1⟩
theorem r_fol (hL : L_R τ b) (hR : R_R I b S) (hw : wS B S) (hB : B + 660 ≤ 900000) {x n y c : Int32} (hf : ft_fol S x n y c = 45) :
    ∃ I', CC (d + 1) 83 [.ref b, .int x, .int n, .int y, .int c] (I, τ) = some (.inl (some (.int (o_fol S x n y c).1)), (I', τ)) ∧ RO I b t B I' (o_fol S x n y c).2 := by
  have w2 := hw.2.1.2.1
  have ha : ft_arg S x n y = 45 := by
    unfold ft_fol at hf
    by_cases q : ft_arg S x n y = 45
    · exact q
    · rw [if_neg q] at hf; exact hf
  unfold ft_fol at hf
  rw [if_pos ha] at hf
  cases hc : fiX (s_U S) c with
  | none => rw [hc, if_pos rfl] at hf; omega
  | some p =>
    have hp := fiX_lt hc
    have hpe := (ff_some _ _ _ hc).2.2.1
    have hpe : c = iN (w_id (ug (s_U S) p)) := (beq_iff_eq.mp hpe).symm
    rw [hc, if_neg (by simp)] at hf
    have hn : un (s_U S) < 8 := by
      by_cases q : un (s_U S) < 8
      · exact q
      · rw [if_neg q] at hf; omega
    obtain ⟨⟨j, hj, rfl⟩, ⟨k, hk, rfl⟩, e, he1, he2, rfl⟩ := arg_ok hw ha
    have hid := (hw.2.2.1.2.2.2 p hp).1
    have hux := hw.2.2.1.2.1
    obtain ⟨I', s1, s2, s3⟩ := c_openWrit (d := d) (ca := w_id (ug (s_U S) p) + 1) hL hR hw (by omega) hn hj hk he1 he2
    rw [caC_s] at s1
    subst hpe
    unfold o_fol
    rw [tn_iN (by omega), tn_iN (by omega), tn_iN (by omega), tn_iN (by omega)]
    exact ⟨I', s1, s2, wS_op hw (by omega) hn hj hk he1 he2 (Or.inr ⟨p, hp, rfl⟩), fun a h1 _ => s3 a h1⟩
theorem r_blk (hL : L_R τ b) (hR : R_R I b S) (hw : wS B S) (hB : B + 660 ≤ 900000) {x y : Int32} (hf : ft_blk S x y = 45) :
    ∃ I', CC d 53 [.ref (b + 14), .int x, .int y] (I, τ) = some (.inl (some (.int (o_blk S x y).1)), (I', τ)) ∧ RO I b t B I' (o_blk S x y).2 := by
  have hm := wS_M hw
  unfold ft_blk at hf
  by_cases q : (inB 1 20 x && inB 1 9 y) = true
  · rw [if_pos q] at hf
    obtain ⟨z1, z2⟩ := Bool.and_eq_true_iff.mp q
    obtain ⟨j, hj1, hj2, rfl⟩ := (inB_iff (by omega) (by omega)).mp z1
    obtain ⟨k, hk1, hk2, rfl⟩ := (inB_iff (by omega) (by omega)).mp z2
    rw [iN_n (by omega), iN_n (by omega)] at hf
    obtain ⟨I', s1, s2, s3⟩ := c_putBlocks (d := d) (c := k) hL.2.2.2.2.2.2.2 hR.2.2.1 hm hj1 hj2
    unfold o_blk
    rw [tn_iN (by omega), tn_iN (by omega)]
    obtain ⟨h1, h2, h3, h4, h5, h6, h7, h8⟩ := hR
    obtain ⟨q1, q2, q3, q4, q5, q6, q7, q8, q9⟩ := hw
    refine ⟨I', s1, ⟨R_P_same h1 (fun a _ _ => s3 a (by omega)), R_U_same h2 (fun a _ _ => s3 a (by omega)), s2, ?_, ?_, ?_, ?_, ?_⟩, ⟨by omega, q2, q3, by show unx (s_U S) ≤ _; omega, by show s_ni S ≤ _; omega, fun i hi => ⟨(q6 i hi).1, by have := (q6 i hi).2; show w_la (ug (s_U S) i) ≤ _; omega⟩, fun w hw => ?_, q8, ?_⟩, fun a h1 _ => s3 a (by omega)⟩
    · rw [s3 b (by omega)]; assumption
    · rw [s3 b (by omega)]; assumption
    · rw [s3 b (by omega)]; assumption
    · rw [s3 b (by omega)]; assumption
    · rw [s3 b (by omega)]; assumption
    · have := q7 w hw
      have := q7 j (by omega)
      show fu (m_bl (s_M S)) j (m_bl (s_M S) j + k) w + 60 * un (s_U S) ≤ B + 60
      by_cases e : w = j
      · rw [e, fu_at]; omega
      · rw [fu_ne e]; omega
    · show m_tr (s_M S) + sA (fun w => iN (fu (m_bl (s_M S)) j (m_bl (s_M S) j + k) w)) 20 = m_ad (s_M S) + iN j * iN k
      have h5 := sA_fu (f := fun v => iN (m_bl (s_M S) v)) (w := j) (c := iN k) 20 hj1 hj2
      have h6 : (fun w => iN (fu (m_bl (s_M S)) j (m_bl (s_M S) j + k) w)) = fu (fun v => iN (m_bl (s_M S) v)) j (iN (m_bl (s_M S) j) + iN k) := by
        funext v
        by_cases e : v = j
        · rw [e, fu_at, fu_at, iN_add]
        · rw [fu_ne e, fu_ne e]
      rw [h6, h5, ← q9, Int32.add_assoc]
  · rw [if_neg q] at hf; omega
theorem r_pay (hL : L_R τ b) (hT : L_T τ t) (hne : b + 17 ≤ t ∨ t + 24 ≤ b) (hR : R_R I b S) (hw : wS B S) (hB : B + 660 ≤ 900000) {x : Int32} (hf : ft_pay S x = 45) :
    ∃ I', CC (d + 2) 86 [.ref b, .int x, .ref t] (I, τ) = some (.inl (some (.int (o_pay S x).1)), (I', τ)) ∧ RO I b t B I' (o_pay S x).2 := by
  unfold ft_pay at hf
  unfold o_pay
  cases hc : fiX (s_U S) x with
  | none =>
    rw [hc] at hf
    have hf : 101 = 45 := hf
    omega
  | some k =>
    rw [hc] at hf
    have hf : (if w_pd (ug (s_U S) k) = 0 then (if fw (m_bl (s_M S)) 20 (w_ba (ug (s_U S) k)) = 1000 then 117 else 45) else 115) = 45 := hf
    have hfw : fw (m_bl (s_M S)) 20 (w_ba (ug (s_U S) k)) ≠ 1000 := fun z => by
      rw [if_pos z] at hf
      split at hf <;> omega
    obtain ⟨I', s1, s2, s3⟩ := c_settleBail (d := d) hL hT hne hR hw hc
    exact ⟨I', s1, s2, wS_up (wS_pay hw (fiX_lt hc) hfw) (by omega) (by omega), s3⟩
theorem r_hea (hL : L_R τ b) (hR : R_R I b S) (hw : wS B S) (hB : B + 660 ≤ 900000) {x : Int32} (hf : ft_hea S x = 45) :
    ∃ I', CC (d + 4) 88 [.ref b, .int x] (I, τ) = some (.inl (some (.int (o_hea S x).1)), (I', τ)) ∧ RO I b t B I' (o_hea S x).2 := by
  unfold ft_hea at hf
  unfold o_hea
  cases hc : fiX (s_U S) x with
  | none => rw [hc, if_pos rfl] at hf; omega
  | some k =>
    obtain ⟨I', s1, s2, s3, s4⟩ := c_holdHearing (d := d) hL hR hw hc
    exact ⟨I', s1, s2, wS_up s3 (by omega) (by omega), fun a h1 _ => s4 a h1⟩
theorem r_nig (hL : L_R τ b) (hR : R_R I b S) (hw : wS B S) (hB : B + 660 ≤ 900000) {n : Int32} (hf : ft_nig n = 45) :
    ∃ I', CC (d + 4) 93 [.ref b, .int n] (I, τ) = some (.inl (some (.int (o_nig S n).1)), (I', τ)) ∧ RO I b t B I' (o_nig S n).2 := by
  unfold ft_nig at hf
  by_cases q : inB 1 50 n = true
  · obtain ⟨k, h1, h2, rfl⟩ := (inB_iff (by omega) (by omega)).mp q
    obtain ⟨I', s1, s2, s3, s4⟩ := c_letNightsPass (d := d) hL hR hw (n := k) (by omega) (by omega)
    unfold o_nig
    rw [tn_iN (by omega)]
    exact ⟨I', s1, s2, wS_up s3 (by omega) (by omega), fun a h1 _ => s4 a h1⟩
  · rw [if_neg q] at hf; omega
end OP
