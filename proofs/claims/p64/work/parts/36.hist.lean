/-! THE HISTORY: a ring of realms -/
theorem iN_mod {n : Nat} (h : n < 1000000) : iN n - iN n / iN 8 * iN 8 = iN (n % 8) := by
  have h1 : n / 8 * 8 ≤ n := Nat.div_mul_le_self _ _
  rw [iN_div (by omega) (by omega), iN_mul, iN_sub h1]
  congr 1
  omega
theorem n8_0 : (iN 8 = 0) = False := eq_false (by decide)
def L_H (τ : qq_R) (h : Nat) : Prop := 70 ≤ h ∧ tK τ h = (4, 0) ∧ tR τ h 0 = h + 1 ∧ tK τ (h + 1) = (111, 8) ∧ (∀ i, i < 8 → tR τ (h + 1) i = h + 2 + 17 * i) ∧ (∀ i, i < 8 → L_R τ (h + 2 + 17 * i))
def R_H (I : qq_I) (h : Nat) (l : List sS) : Prop := ∃ o, o < 8 ∧ I h 1 = iN o ∧ I h 2 = iN l.length ∧ l.length ≤ 8 ∧ ∀ i (hi : i < l.length), R_R I (h + 2 + 17 * ((o + i) % 8)) l[i]
theorem R_H_same {I I' : qq_I} {h : Nat} {l : List sS} (hR : R_H I h l) (hs : ∀ a, h ≤ a → a < h + 138 → I' a = I a) : R_H I' h l := by
  obtain ⟨o, h1, h2, h3, h4, h5⟩ := hR
  refine ⟨o, h1, by rw [hs h (by omega) (by omega)]; exact h2, by rw [hs h (by omega) (by omega)]; exact h3, h4, fun i hi => R_R_same (h5 i hi) (fun a ha hb => hs a (by omega) ?_)⟩
  have : (o + i) % 8 < 8 := Nat.mod_lt _ (by omega)
  omega
/-- one more to come back to -/
def hiA (l : List sS) (S : sS) : List sS := if l.length < 8 then l ++ [S] else l.drop 1 ++ [S]
theorem k111 : ((110 ≤ 111 ∧ 111 < 113) : Prop) = True := eq_true (by omega)
theorem o_ne {o i j : Nat} (h1 : i < 8) (h2 : j < 8) (h3 : i ≠ j) : (o + i) % 8 ≠ (o + j) % 8 := by omega
section HI
variable {d : Nat} {I : qq_I} {τ : qq_R} {h b : Nat} {S : sS} {B : Nat} {l : List sS}
theorem c_remember (hH : L_H τ h) (hL : L_R τ b) (hne : b + 17 ≤ h ∨ h + 138 ≤ b) (hR : R_H I h l) (hS : R_R I b S) (hw : wS B S) :
    ∃ I', CC (d + 2) 45 [.ref h, .ref b] (I, τ) = some (.inl none, (I', τ)) ∧ R_H I' h (hiA l S) ∧ Fr h 138 I I' := by
  obtain ⟨hh, k0, k1, k2, k3, k4⟩ := hH
  obtain ⟨o, h1, h2, h3, h4, h5⟩ := hR
  have hp : (o + l.length) % 8 < 8 := Nat.mod_lt _ (by omega)
  have e3 := k3 _ hp
  have lR := k4 _ hp
  have lk := lR.2.1
  have fC : ∃ J, CC (d + 1) 75 [.ref (h + 2 + 17 * ((o + l.length) % 8)), .ref b] (I, τ) = some (.inl none, (J, τ)) ∧ R_R J (h + 2 + 17 * ((o + l.length) % 8)) S ∧ Fr (h + 2 + 17 * ((o + l.length) % 8)) 17 I J := c_copyRealm (d := d) lR hL hS hw (by omega)
  obtain ⟨J, s1, s2, s3⟩ := fC
  have em : iN (o + l.length) - iN (o + l.length) / iN 8 * iN 8 = iN ((o + l.length) % 8) := iN_mod (by omega)
  have j1 : J h 1 = iN o := by rw [s3 h (by omega)]; exact h2
  have j2 : J h 2 = iN l.length := by rw [s3 h (by omega)]; exact h3
  by_cases q : l.length < 8
  · refine ⟨up_2 J h 2 (iN (l.length + 1)), ?_, ?_, Fr_tr (Fr_wd s3 (by omega) (by omega)) (Fr_up (by omega))⟩
    · rw [c_45, b_45_0]
      simp (disch := omega) only [rd_I_mk, rd_R_mk, rd_L_mk, rd_D_mk, kd_mk, wr_I_mk, cp_mk, gd_true, bd_ret, bd_thr, vl_none, vl_some, iN_add, iN_mul, iN_sub, iN_lt, iN_eq, iN_n, iN_m1, iN_pred, vp_iN, K0_le, nr_b0, nr_b1, m1_lt, lt_m1, iN_ne_m1, m1_ne_iN, not_lt_z, true_and, and_true, and_self, or_true, true_or, or_false, false_or, if_true, if_false, ↓reduceIte, eq_self, up_at, up_a, up_k, cp_c, cp_b, Nat.zero_add, Nat.add_zero, Nat.sub_zero, Nat.le_refl, Nat.add_sub_cancel, fu_at, fu_ne, iN_nz, n10_f, n01_f, ofN, qq_at_100, k110b, Nat.lt_irrefl, Nat.not_lt_zero, ne_eq, not_false_eq_true, not_true_eq_false, k0, k1, k2, k111, h2, h3, em, e3, lk, n8_0, s1, b_45_12, j2, j1, q, b_45_22, b_45_31]
    · unfold hiA
      rw [if_pos q]
      have hl : (l ++ [S]).length = l.length + 1 := by rw [List.length_append]; rfl
      refine ⟨o, h1, by rw [up_k (by omega)]; exact j1, by rw [up_at, hl], by omega, fun i hi => ?_⟩
      have h17 : (o + i) % 8 < 8 := Nat.mod_lt _ (by omega)
      refine R_R_same (I := J) ?_ (fun a _ _ => up_c (by omega))
      by_cases e : i < l.length
      · rw [List.getElem_append_left e]
        have h6 := o_ne (o := o) (i := i) (j := l.length) (by omega) q (by omega)
        exact R_R_same (h5 i e) (fun a _ _ => s3 a (by omega))
      · have e2 : i = l.length := by omega
        subst e2
        rw [List.getElem_append_right (Nat.le_refl _)]
        simp only [Nat.sub_self, List.getElem_cons_zero]
        exact s2
  · have q8 : l.length = 8 := by omega
    rw [q8] at s1 s2 s3 em e3 lk h3 j2
    have em2 : iN (o + 1) - iN (o + 1) / iN 8 * iN 8 = iN ((o + 1) % 8) := iN_mod (by omega)
    refine ⟨up_2 J h 1 (iN ((o + 1) % 8)), ?_, ?_, Fr_tr (Fr_wd s3 (by omega) (by omega)) (Fr_up (by omega))⟩
    · rw [c_45, b_45_0]
      simp (disch := omega) only [rd_I_mk, rd_R_mk, rd_L_mk, rd_D_mk, kd_mk, wr_I_mk, cp_mk, gd_true, bd_ret, bd_thr, vl_none, vl_some, iN_add, iN_mul, iN_sub, iN_lt, iN_eq, iN_n, iN_m1, iN_pred, vp_iN, K0_le, nr_b0, nr_b1, m1_lt, lt_m1, iN_ne_m1, m1_ne_iN, not_lt_z, true_and, and_true, and_self, or_true, true_or, or_false, false_or, if_true, if_false, ↓reduceIte, eq_self, up_at, up_a, up_k, cp_c, cp_b, Nat.zero_add, Nat.add_zero, Nat.sub_zero, Nat.le_refl, Nat.add_sub_cancel, fu_at, fu_ne, iN_nz, n10_f, n01_f, ofN, qq_at_100, k110b, Nat.lt_irrefl, Nat.not_lt_zero, ne_eq, not_false_eq_true, not_true_eq_false, k0, k1, k2, k111, h2, h3, em, e3, lk, n8_0, s1, b_45_12, j2, j1, em2, b_45_31]
    · unfold hiA
      rw [if_neg q]
      have hl : (l.drop 1 ++ [S]).length = 8 := by rw [List.length_append, List.length_drop, q8]; rfl
      refine ⟨(o + 1) % 8, Nat.mod_lt _ (by omega), up_at, by rw [up_k (by omega), hl]; exact j2, by omega, fun i hi => ?_⟩
      have h17 : ((o + 1) % 8 + i) % 8 < 8 := Nat.mod_lt _ (by omega)
      refine R_R_same (I := J) ?_ (fun a _ _ => up_c (by omega))
      have hi8 : i < 8 := by omega
      have em3 : ((o + 1) % 8 + i) % 8 = (o + (i + 1)) % 8 := by omega
      rw [em3]
      by_cases e : i < 7
      · have e1 : i < (l.drop 1).length := by rw [List.length_drop]; omega
        rw [List.getElem_append_left e1, List.getElem_drop]
        have h6 : (o + (i + 1)) % 8 ≠ (o + 8) % 8 := by omega
        have h7 := h5 (i + 1) (by omega)
        have e5 : l[1 + i] = l[i + 1] := by congr 1; omega
        rw [e5]
        exact R_R_same h7 (fun a _ _ => s3 a (by omega))
      · have e2 : i = 7 := by omega
        subst e2
        have e1 : (l.drop 1).length = 7 := by rw [List.length_drop]; omega
        rw [List.getElem_append_right (by omega)]
        simp only [e1, Nat.sub_self, List.getElem_cons_zero]
        exact s2
theorem c_takeBack (hH : L_H τ h) (hL : L_R τ b) (hne : b + 17 ≤ h ∨ h + 138 ≤ b) (hR : R_H I h (l ++ [S])) (hw : wS B S) :
    ∃ I', CC (d + 2) 46 [.ref h, .ref b] (I, τ) = some (.inl (some (.int (iN l.length))), (I', τ)) ∧ R_H I' h l ∧ R_R I' b S ∧ (∀ a, (a < h ∨ h + 138 ≤ a) → (a < b ∨ b + 17 ≤ a) → I' a = I a) := by
  obtain ⟨hh, k0, k1, k2, k3, k4⟩ := hH
  obtain ⟨o, h1, h2, h3, h4, h5⟩ := hR
  have hl : (l ++ [S]).length = l.length + 1 := by rw [List.length_append]; rfl
  rw [hl] at h3 h4
  have hp : (o + l.length) % 8 < 8 := Nat.mod_lt _ (by omega)
  have e3 := k3 _ hp
  have lR := k4 _ hp
  have lk := lR.2.1
  have hb := hL.2.1
  have em : iN (o + l.length) - iN (o + l.length) / iN 8 * iN 8 = iN ((o + l.length) % 8) := iN_mod (by omega)
  have h6 := h5 l.length (by omega)
  rw [List.getElem_append_right (Nat.le_refl _)] at h6
  simp only [Nat.sub_self, List.getElem_cons_zero] at h6
  obtain ⟨J, s1, s2, s3⟩ := c_copyRealm (d := d) (I := up_2 I h 2 (iN l.length)) hL lR (R_R_same h6 (fun a _ _ => up_c (by omega))) hw (by omega)
  have j2 : J h 2 = iN l.length := by rw [s3 h (by omega), up_at]
  refine ⟨J, ?_, ⟨o, h1, by rw [s3 h (by omega), up_k (by omega)]; exact h2, j2, by omega, fun i hi => ?_⟩, s2, fun a ha hb => by rw [s3 a (by omega), up_c (by omega)]⟩
  · rw [c_46, b_46_0]
    simp (disch := omega) only [rd_I_mk, rd_R_mk, rd_L_mk, rd_D_mk, kd_mk, wr_I_mk, cp_mk, gd_true, bd_ret, bd_thr, vl_none, vl_some, iN_add, iN_mul, iN_sub, iN_lt, iN_eq, iN_n, iN_m1, iN_pred, vp_iN, K0_le, nr_b0, nr_b1, m1_lt, lt_m1, iN_ne_m1, m1_ne_iN, not_lt_z, true_and, and_true, and_self, or_true, true_or, or_false, false_or, if_true, if_false, ↓reduceIte, eq_self, up_at, up_a, up_k, cp_c, cp_b, Nat.zero_add, Nat.add_zero, Nat.sub_zero, Nat.le_refl, Nat.add_sub_cancel, fu_at, fu_ne, iN_nz, n10_f, n01_f, ofN, qq_at_100, k110b, Nat.lt_irrefl, Nat.not_lt_zero, ne_eq, not_false_eq_true, not_true_eq_false, k0, k1, k2, k111, h2, h3, em, e3, lk, n8_0, b_46_6, hb, s1, b_46_18, j2]
  · have h7 := h5 i (by omega)
    rw [List.getElem_append_left hi] at h7
    have h17 : (o + i) % 8 < 8 := Nat.mod_lt _ (by omega)
    exact R_R_same h7 (fun a _ _ => by rw [s3 a (by omega), up_c (by omega)])
theorem c_forget (hH : L_H τ h) (hR : R_H I h l) : ∃ I', CC d 47 [.ref h] (I, τ) = some (.inl none, (I', τ)) ∧ R_H I' h [] ∧ Fr h 138 I I' := by
  obtain ⟨hh, k0, k1, k2, k3, k4⟩ := hH
  obtain ⟨o, h1, h2, h3, h4, h5⟩ := hR
  refine ⟨up_2 I h 2 (iN 0), ?_, ⟨o, h1, by rw [up_k (by omega)]; exact h2, up_at, Nat.zero_le _, fun i hi => absurd hi (Nat.not_lt_zero _)⟩, Fr_up (by omega)⟩
  rw [c_47, b_47_0]
  simp (disch := omega) only [rd_I_mk, rd_R_mk, rd_L_mk, rd_D_mk, kd_mk, wr_I_mk, cp_mk, gd_true, bd_ret, bd_thr, vl_none, vl_some, iN_add, iN_mul, iN_sub, iN_lt, iN_eq, iN_n, iN_m1, iN_pred, vp_iN, K0_le, nr_b0, nr_b1, m1_lt, lt_m1, iN_ne_m1, m1_ne_iN, not_lt_z, true_and, and_true, and_self, or_true, true_or, or_false, false_or, if_true, if_false, ↓reduceIte, eq_self, up_at, up_a, up_k, cp_c, cp_b, Nat.zero_add, Nat.add_zero, Nat.sub_zero, Nat.le_refl, Nat.add_sub_cancel, fu_at, fu_ne, iN_nz, n10_f, n01_f, ofN, qq_at_100, k110b, Nat.lt_irrefl, Nat.not_lt_zero, ne_eq, not_false_eq_true, not_true_eq_false, k0, b_47_3]
end HI
