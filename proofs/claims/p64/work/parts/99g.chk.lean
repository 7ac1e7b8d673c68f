/-! THE LAW'S OWN CHECK, IN PIECES -/
theorem ra_cat {m : Nat} : ∀ {A B : List qq_E} {j n : Nat}, qq_ra m A j = true → A.length = n → qq_ra m B (j + n) = true → qq_ra m (A ++ B) j = true := by
  intro A
  induction A with
  | nil => intro B j n _ hl hB; subst hl; exact hB
  | cons a A ih =>
    intro B j n hA hl hB
    subst hl
    simp only [qq_ra, Bool.and_eq_true] at hA
    simp only [List.cons_append, qq_ra, Bool.and_eq_true]
    refine ⟨hA.1, ih hA.2 rfl ?_⟩
    rw [show j + 1 + A.length = j + (A.length + 1) by omega]
    exact hB
theorem ra_td {m j : Nat} {L : List qq_E} (n : Nat) (h1 : qq_ra m (L.take n) j = true) (hl : (L.take n).length = n) (h2 : qq_ra m (L.drop n) (j + n) = true) : qq_ra m L j = true := by
  rw [← List.take_append_drop n L]
  exact ra_cat h1 hl h2
theorem t_245d : qq_okd 245 = true := by decide +kernel
/-- a code word, its bytes compared as lists -/
def is_C (w : Nat) (y : MethodName) (bs : ByteArray) (n : Nat) (r : Option FieldType) : Bool := match qq_tbl[w]? with
  | some (.code y' b' n' r') => decide (y' = y) && decide (b'.data.toList = bs.data.toList) && decide (n' = n) && decide (r' = r)
  | _ => false
theorem is_of_C {w : Nat} {y : MethodName} {bs : ByteArray} {n : Nat} {r : Option FieldType} (h : is_C w y bs n r = true) : qq_is w (.code y bs n r) = true := by
  unfold is_C at h
  split at h
  · rename_i y' b' n' r' hw
    simp only [Bool.and_eq_true, decide_eq_true_eq] at h
    obtain ⟨⟨⟨rfl, h2⟩, rfl⟩, rfl⟩ := h
    have hb : b' = bs := ByteArray.ext (Array.ext' h2)
    subst hb
    exact decide_eq_true hw
  · cases h
theorem cod_244 : qq_cod 244 1485 = true := by
  have h1 : qq_is 1485 (.code (qq_y 244) (qq_cd 244) (qq_maxL 244) (qq_ret 244)) = true := is_of_C (by decide +kernel)
  have h2 : decide (qq_maxL 244 ≤ 27) = true := by decide +kernel
  have h3 : decide (qq_hn 244 = []) = true := by decide +kernel
  unfold qq_cod
  rw [h1, h2, h3]
  rfl
theorem r_244 : (qq_np (qq_y 244) 3 && qq_is 1483 (.methodLink (qq_y 245).cls 296 (qq_y 244)) && qq_is 1484 (.static (qq_y 244)) && qq_is 34 (.initialized (qq_y 244).cls)) = true := by decide +kernel
theorem okc_244 : qq_okc 245 (.invokestatic 296) [0, 244, 3, 0, 1483, 1484, 34, 1485] = true := by
  have e : qq_okc 245 (.invokestatic 296) [0, 244, 3, 0, 1483, 1484, 34, 1485] = (qq_cod 244 1485 && qq_np (qq_y 244) 3 && qq_is 1483 (.methodLink (qq_y 245).cls 296 (qq_y 244)) && qq_is 1484 (.static (qq_y 244)) && qq_is 34 (.initialized (qq_y 244).cls)) := rfl
  have h := r_244
  simp only [Bool.and_eq_true] at h
  rw [e, cod_244, h.1.1.1, h.1.1.2, h.1.2, h.2]
  rfl
theorem okp_244 {j a : Nat} (h : (decide (qq_pc 245 (j + 1) = a + 3) && qq_cv 245 j a) = true) : qq_okp 245 j (a, .invokestatic 296, 3, [0, 244, 3, 0, 1483, 1484, 34, 1485]) = true := by
  have e : qq_okp 245 j (a, .invokestatic 296, 3, [0, 244, 3, 0, 1483, 1484, 34, 1485]) = (qq_okc 245 (.invokestatic 296) [0, 244, 3, 0, 1483, 1484, 34, 1485] && decide (3 = 3) && decide (qq_pc 245 (j + 1) = a + 3) && qq_cv 245 j a) := rfl
  simp only [Bool.and_eq_true] at h
  rw [e, okc_244, h.1, h.2]
  rfl
theorem s_244_20 : qq_ra 245 [(33, .invokestatic 296, 3, [0, 244, 3, 0, 1483, 1484, 34, 1485])] 20 = true := by
  show (qq_okp 245 20 (33, .invokestatic 296, 3, [0, 244, 3, 0, 1483, 1484, 34, 1485]) && true) = true
  rw [okp_244 (by decide +kernel)]
  rfl
theorem s_244_44 : qq_ra 245 [(74, .invokestatic 296, 3, [0, 244, 3, 0, 1483, 1484, 34, 1485])] 44 = true := by
  show (qq_okp 245 44 (74, .invokestatic 296, 3, [0, 244, 3, 0, 1483, 1484, 34, 1485]) && true) = true
  rw [okp_244 (by decide +kernel)]
  rfl
theorem p_tb_245_0_0 : qq_ra 245 ((tb_245_0).take 20) 0 = true := by decide +kernel
theorem l_tb_245_0_0 : ((tb_245_0).take 20).length = 20 := by decide +kernel
set_option maxRecDepth 100000 in
theorem p_tb_245_0_20 : qq_ra 245 (((tb_245_0).drop 20).take 1) 20 = true := s_244_20
theorem l_tb_245_0_20 : (((tb_245_0).drop 20).take 1).length = 1 := by decide +kernel
theorem p_tb_245_0_21 : qq_ra 245 ((((tb_245_0).drop 20).drop 1).take 23) 21 = true := by decide +kernel
theorem l_tb_245_0_21 : ((((tb_245_0).drop 20).drop 1).take 23).length = 23 := by decide +kernel
set_option maxRecDepth 100000 in
theorem p_tb_245_0_44 : qq_ra 245 (((((tb_245_0).drop 20).drop 1).drop 23).take 1) 44 = true := s_244_44
theorem l_tb_245_0_44 : (((((tb_245_0).drop 20).drop 1).drop 23).take 1).length = 1 := by decide +kernel
theorem p_tb_245_0_45 : qq_ra 245 ((((((tb_245_0).drop 20).drop 1).drop 23).drop 1).take 25) 45 = true := by decide +kernel
theorem l_tb_245_0_45 : ((((((tb_245_0).drop 20).drop 1).drop 23).drop 1).take 25).length = 25 := by decide +kernel
theorem p_tb_245_0_70 : qq_ra 245 (((((((tb_245_0).drop 20).drop 1).drop 23).drop 1).drop 25).take 25) 70 = true := by decide +kernel
theorem l_tb_245_0_70 : (((((((tb_245_0).drop 20).drop 1).drop 23).drop 1).drop 25).take 25).length = 25 := by decide +kernel
theorem p_tb_245_0_95 : qq_ra 245 (((((((tb_245_0).drop 20).drop 1).drop 23).drop 1).drop 25).drop 25) 95 = true := by decide +kernel
theorem p_tb_245_0 : qq_ra 245 tb_245_0 0 = true := (ra_td 20 p_tb_245_0_0 l_tb_245_0_0 (ra_td 1 p_tb_245_0_20 l_tb_245_0_20 (ra_td 23 p_tb_245_0_21 l_tb_245_0_21 (ra_td 1 p_tb_245_0_44 l_tb_245_0_44 (ra_td 25 p_tb_245_0_45 l_tb_245_0_45 (ra_td 25 p_tb_245_0_70 l_tb_245_0_70 p_tb_245_0_95))))))
theorem l_245_0 : tb_245_0.length = 120 := by decide +kernel
theorem p_tb_245_1_0 : qq_ra 245 ((tb_245_1).take 20) 120 = true := by decide +kernel
theorem l_tb_245_1_0 : ((tb_245_1).take 20).length = 20 := by decide +kernel
theorem p_tb_245_1_20 : qq_ra 245 ((tb_245_1).drop 20) 140 = true := by decide +kernel
theorem p_tb_245_1 : qq_ra 245 tb_245_1 120 = true := (ra_td 20 p_tb_245_1_0 l_tb_245_1_0 p_tb_245_1_20)
theorem t_245r : qq_ra 245 tb_245 0 = true := ra_cat p_tb_245_0 l_245_0 p_tb_245_1
theorem t_a245 : qq_okm 245 = true := by
  have h : qq_ra 245 (qq_tab.getD 245 []) 0 = true := t_245r
  unfold qq_okm
  rw [t_245d, h]
  rfl
