/-! THE LAW'S OWN CHECK, IN PIECES -/
theorem ra_cat {m : Nat} : ∀ {A B : List qq_E} {j n : Nat}, qq_ra m A j = true → A.length = n → qq_ra m B (j + n) = true → qq_ra m (A ++ B) j = true := by
  intro A
  induction A with
  | nil => intro B j n _ hl hB; subst hl; exact hB
  | cons a A ih =>
    intro B j n hA hl hB
    subst hl
    simp only [qq_ra, Bool.and_eq_true] at hA
    simp only [List.cons_append, qq_ra, Bool.and_eq_true]
    refine ⟨hA.1, ih hA.2 rfl ?_⟩
    rw [show j + 1 + A.length = j + (A.length + 1) by omega]
    exact hB
theorem t_245d : qq_okd 245 = true := by decide +kernel
theorem t_245_0 : qq_ra 245 tb_245_0 0 = true := by decide +kernel
theorem l_245_0 : tb_245_0.length = 120 := by decide +kernel
theorem t_245_1 : qq_ra 245 tb_245_1 120 = true := by decide +kernel
theorem t_245r : qq_ra 245 tb_245 0 = true := ra_cat t_245_0 l_245_0 t_245_1
theorem t_a245 : qq_okm 245 = true := by
  have h : qq_ra 245 (qq_tab.getD 245 []) 0 = true := t_245r
  unfold qq_okm
  rw [t_245d, h]
  rfl
