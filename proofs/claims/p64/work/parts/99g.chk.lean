/-! THE LAW'S OWN CHECK, IN PIECES -/
theorem ra_cat {m : Nat} : ∀ {A B : List qq_E} {j n : Nat}, qq_ra m A j = true → A.length = n → qq_ra m B (j + n) = true → qq_ra m (A ++ B) j = true := by
  intro A
  induction A with
  | nil => intro B j n _ hl hB; subst hl; exact hB
  | cons a A ih =>
    intro B j n hA hl hB
    subst hl
    simp only [qq_ra, Bool.and_eq_true] at hA
    simp only [List.cons_append, qq_ra, Bool.and_eq_true]
    refine ⟨hA.1, ih hA.2 rfl ?_⟩
    rw [show j + 1 + A.length = j + (A.length + 1) by omega]
    exact hB
theorem ra_td {m j : Nat} {L : List qq_E} (n : Nat) (h1 : qq_ra m (L.take n) j = true) (hl : (L.take n).length = n) (h2 : qq_ra m (L.drop n) (j + n) = true) : qq_ra m L j = true := by
  rw [← List.take_append_drop n L]
  exact ra_cat h1 hl h2
theorem t_245d : qq_okd 245 = true := by decide +kernel
theorem p_tb_245_0_0 : qq_ra 245 ((tb_245_0).take 20) 0 = true := by decide +kernel
theorem l_tb_245_0_0 : ((tb_245_0).take 20).length = 20 := by decide +kernel
theorem p_tb_245_0_20 : qq_ra 245 ((tb_245_0.drop 20).take 20) 20 = true := by decide +kernel
theorem l_tb_245_0_20 : ((tb_245_0.drop 20).take 20).length = 20 := by decide +kernel
theorem p_tb_245_0_40 : qq_ra 245 (((tb_245_0.drop 20).drop 20).take 20) 40 = true := by decide +kernel
theorem l_tb_245_0_40 : (((tb_245_0.drop 20).drop 20).take 20).length = 20 := by decide +kernel
theorem p_tb_245_0_60 : qq_ra 245 ((((tb_245_0.drop 20).drop 20).drop 20).take 20) 60 = true := by decide +kernel
theorem l_tb_245_0_60 : ((((tb_245_0.drop 20).drop 20).drop 20).take 20).length = 20 := by decide +kernel
theorem p_tb_245_0_80 : qq_ra 245 (((((tb_245_0.drop 20).drop 20).drop 20).drop 20).take 20) 80 = true := by decide +kernel
theorem l_tb_245_0_80 : (((((tb_245_0.drop 20).drop 20).drop 20).drop 20).take 20).length = 20 := by decide +kernel
theorem p_tb_245_0_100 : qq_ra 245 (((((tb_245_0.drop 20).drop 20).drop 20).drop 20).drop 20) 100 = true := by decide +kernel
theorem p_tb_245_0 : qq_ra 245 tb_245_0 0 = true := (ra_td 20 p_tb_245_0_0 l_tb_245_0_0 (ra_td 20 p_tb_245_0_20 l_tb_245_0_20 (ra_td 20 p_tb_245_0_40 l_tb_245_0_40 (ra_td 20 p_tb_245_0_60 l_tb_245_0_60 (ra_td 20 p_tb_245_0_80 l_tb_245_0_80 p_tb_245_0_100)))))
theorem l_245_0 : tb_245_0.length = 120 := by decide +kernel
theorem p_tb_245_1_0 : qq_ra 245 ((tb_245_1).take 20) 120 = true := by decide +kernel
theorem l_tb_245_1_0 : ((tb_245_1).take 20).length = 20 := by decide +kernel
theorem p_tb_245_1_20 : qq_ra 245 ((tb_245_1.drop 20).take 20) 140 = true := by decide +kernel
theorem l_tb_245_1_20 : ((tb_245_1.drop 20).take 20).length = 20 := by decide +kernel
theorem p_tb_245_1_40 : qq_ra 245 ((tb_245_1.drop 20).drop 20) 160 = true := by decide +kernel
theorem p_tb_245_1 : qq_ra 245 tb_245_1 120 = true := (ra_td 20 p_tb_245_1_0 l_tb_245_1_0 (ra_td 20 p_tb_245_1_20 l_tb_245_1_20 p_tb_245_1_40))
theorem t_245r : qq_ra 245 tb_245 0 = true := ra_cat p_tb_245_0 l_245_0 p_tb_245_1
theorem t_a245 : qq_okm 245 = true := by
  have h : qq_ra 245 (qq_tab.getD 245 []) 0 = true := t_245r
  unfold qq_okm
  rw [t_245d, h]
  rfl
