/-! THE LAW'S OWN CHECK, IN PIECES -/
theorem ra_cat {m : Nat} : ∀ {A B : List qq_E} {j n : Nat}, qq_ra m A j = true → A.length = n → qq_ra m B (j + n) = true → qq_ra m (A ++ B) j = true := by
  intro A
  induction A with
  | nil => intro B j n _ hl hB; subst hl; exact hB
  | cons a A ih =>
    intro B j n hA hl hB
    subst hl
    simp only [qq_ra, Bool.and_eq_true] at hA
    simp only [List.cons_append, qq_ra, Bool.and_eq_true]
    refine ⟨hA.1, ih hA.2 rfl ?_⟩
    rw [show j + 1 + A.length = j + (A.length + 1) by omega]
    exact hB
theorem t_378d : qq_okd 378 = true := by decide +kernel
theorem t_378_0 : qq_ra 378 tb_378_0 0 = true := by decide +kernel
theorem l_378_0 : tb_378_0.length = 120 := by decide +kernel
theorem t_378_1 : qq_ra 378 tb_378_1 120 = true := by decide +kernel
theorem l_378_1 : tb_378_1.length = 120 := by decide +kernel
theorem t_378_2 : qq_ra 378 tb_378_2 240 = true := by decide +kernel
theorem l_378_2 : tb_378_2.length = 120 := by decide +kernel
theorem t_378_3 : qq_ra 378 tb_378_3 360 = true := by decide +kernel
theorem l_378_3 : tb_378_3.length = 120 := by decide +kernel
theorem t_378_4 : qq_ra 378 tb_378_4 480 = true := by decide +kernel
theorem l_378_4 : tb_378_4.length = 120 := by decide +kernel
theorem t_378_5 : qq_ra 378 tb_378_5 600 = true := by decide +kernel
theorem l_378_5 : tb_378_5.length = 120 := by decide +kernel
theorem t_378_6 : qq_ra 378 tb_378_6 720 = true := by decide +kernel
theorem l_378_6 : tb_378_6.length = 120 := by decide +kernel
theorem t_378_7 : qq_ra 378 tb_378_7 840 = true := by decide +kernel
theorem l_378_7 : tb_378_7.length = 120 := by decide +kernel
theorem t_378_8 : qq_ra 378 tb_378_8 960 = true := by decide +kernel
theorem l_378_8 : tb_378_8.length = 120 := by decide +kernel
theorem t_378_9 : qq_ra 378 tb_378_9 1080 = true := by decide +kernel
theorem l_378_9 : tb_378_9.length = 120 := by decide +kernel
theorem t_378_10 : qq_ra 378 tb_378_10 1200 = true := by decide +kernel
theorem l_378_10 : tb_378_10.length = 120 := by decide +kernel
theorem t_378_11 : qq_ra 378 tb_378_11 1320 = true := by decide +kernel
theorem l_378_11 : tb_378_11.length = 120 := by decide +kernel
theorem t_378_12 : qq_ra 378 tb_378_12 1440 = true := by decide +kernel
theorem l_378_12 : tb_378_12.length = 120 := by decide +kernel
theorem t_378_13 : qq_ra 378 tb_378_13 1560 = true := by decide +kernel
theorem l_378_13 : tb_378_13.length = 120 := by decide +kernel
theorem t_378_14 : qq_ra 378 tb_378_14 1680 = true := by decide +kernel
theorem l_378_14 : tb_378_14.length = 120 := by decide +kernel
theorem t_378_15 : qq_ra 378 tb_378_15 1800 = true := by decide +kernel
theorem t_378r : qq_ra 378 tb_378 0 = true := (ra_cat t_378_0 l_378_0 (ra_cat t_378_1 l_378_1 (ra_cat t_378_2 l_378_2 (ra_cat t_378_3 l_378_3 (ra_cat t_378_4 l_378_4 (ra_cat t_378_5 l_378_5 (ra_cat t_378_6 l_378_6 (ra_cat t_378_7 l_378_7 (ra_cat t_378_8 l_378_8 (ra_cat t_378_9 l_378_9 (ra_cat t_378_10 l_378_10 (ra_cat t_378_11 l_378_11 (ra_cat t_378_12 l_378_12 (ra_cat t_378_13 l_378_13 (ra_cat t_378_14 l_378_14 t_378_15)))))))))))))))
theorem t_a378 : qq_okm 378 = true := by
  have h : qq_ra 378 (qq_tab.getD 378 []) 0 = true := t_378r
  unfold qq_okm
  rw [t_378d, h]
  rfl
