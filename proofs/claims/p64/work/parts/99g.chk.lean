/-! THE LAW'S OWN CHECK, IN PIECES -/
theorem ra_cat {m : Nat} : ∀ {A B : List qq_E} {j n : Nat}, qq_ra m A j = true → A.length = n → qq_ra m B (j + n) = true → qq_ra m (A ++ B) j = true := by
  intro A
  induction A with
  | nil => intro B j n _ hl hB; subst hl; exact hB
  | cons a A ih =>
    intro B j n hA hl hB
    subst hl
    simp only [qq_ra, Bool.and_eq_true] at hA
    simp only [List.cons_append, qq_ra, Bool.and_eq_true]
    refine ⟨hA.1, ih hA.2 rfl ?_⟩
    rw [show j + 1 + A.length = j + (A.length + 1) by omega]
    exact hB
theorem ra_td {m j : Nat} {L : List qq_E} (n : Nat) (h1 : qq_ra m (L.take n) j = true) (hl : (L.take n).length = n) (h2 : qq_ra m (L.drop n) (j + n) = true) : qq_ra m L j = true := by
  rw [← List.take_append_drop n L]
  exact ra_cat h1 hl h2
theorem t_245d : qq_okd 245 = true := by decide +kernel
/-- a code word, its bytes compared as lists -/
def is_C (w : Nat) (y : MethodName) (bs : ByteArray) (n : Nat) (r : Option FieldType) : Bool := match qq_tbl[w]? with
  | some (.code y' b' n' r') => decide (y' = y) && decide (b'.data.toList = bs.data.toList) && decide (n' = n) && decide (r' = r)
  | _ => false
theorem is_of_C {w : Nat} {y : MethodName} {bs : ByteArray} {n : Nat} {r : Option FieldType} (h : is_C w y bs n r = true) : qq_is w (.code y bs n r) = true := by
  unfold is_C at h
  split at h
  · rename_i y' b' n' r' hw
    simp only [Bool.and_eq_true, decide_eq_true_eq] at h
    obtain ⟨⟨⟨rfl, h2⟩, rfl⟩, rfl⟩ := h
    have hb : b' = bs := ByteArray.ext (Array.ext' h2)
    subst hb
    exact decide_eq_true hw
  · cases h
theorem cod_239 : qq_cod 239 551 = true := by
  have h1 : qq_is 551 (.code (qq_y 239) (qq_cd 239) (qq_maxL 239) (qq_ret 239)) = true := is_of_C (by decide +kernel)
  have h2 : decide (qq_maxL 239 ≤ 27) = true := by decide +kernel
  have h3 : decide (qq_hn 239 = []) = true := by decide +kernel
  unfold qq_cod
  rw [h1, h2, h3]
  rfl
theorem r_239 : (qq_np (qq_y 239) 1 && qq_is 549 (.methodLink (qq_y 245).cls 292 (qq_y 239)) && qq_is 550 (.static (qq_y 239)) && qq_is 34 (.initialized (qq_y 239).cls)) = true := by decide +kernel
theorem okc_239 : qq_okc 245 (.invokestatic 292) [0, 239, 1, 0, 549, 550, 34, 551] = true := by
  have e : qq_okc 245 (.invokestatic 292) [0, 239, 1, 0, 549, 550, 34, 551] = (qq_cod 239 551 && qq_np (qq_y 239) 1 && qq_is 549 (.methodLink (qq_y 245).cls 292 (qq_y 239)) && qq_is 550 (.static (qq_y 239)) && qq_is 34 (.initialized (qq_y 239).cls)) := rfl
  have h := r_239
  simp only [Bool.and_eq_true] at h
  rw [e, cod_239, h.1.1.1, h.1.1.2, h.1.2, h.2]
  rfl
theorem okp_239 {j a : Nat} (h : (decide (qq_pc 245 (j + 1) = a + 3) && qq_cv 245 j a) = true) : qq_okp 245 j (a, .invokestatic 292, 3, [0, 239, 1, 0, 549, 550, 34, 551]) = true := by
  have e : qq_okp 245 j (a, .invokestatic 292, 3, [0, 239, 1, 0, 549, 550, 34, 551]) = (qq_okc 245 (.invokestatic 292) [0, 239, 1, 0, 549, 550, 34, 551] && decide (3 = 3) && decide (qq_pc 245 (j + 1) = a + 3) && qq_cv 245 j a) := rfl
  simp only [Bool.and_eq_true] at h
  rw [e, okc_239, h.1, h.2]
  rfl
theorem s_239_1 : qq_ra 245 [(1, .invokestatic 292, 3, [0, 239, 1, 0, 549, 550, 34, 551])] 1 = true := by
  show (qq_okp 245 1 (1, .invokestatic 292, 3, [0, 239, 1, 0, 549, 550, 34, 551]) && true) = true
  rw [okp_239 (by decide +kernel)]
  rfl
theorem cod_244 : qq_cod 244 1485 = true := by
  have h1 : qq_is 1485 (.code (qq_y 244) (qq_cd 244) (qq_maxL 244) (qq_ret 244)) = true := is_of_C (by decide +kernel)
  have h2 : decide (qq_maxL 244 ≤ 27) = true := by decide +kernel
  have h3 : decide (qq_hn 244 = []) = true := by decide +kernel
  unfold qq_cod
  rw [h1, h2, h3]
  rfl
theorem r_244 : (qq_np (qq_y 244) 3 && qq_is 1483 (.methodLink (qq_y 245).cls 296 (qq_y 244)) && qq_is 1484 (.static (qq_y 244)) && qq_is 34 (.initialized (qq_y 244).cls)) = true := by decide +kernel
theorem okc_244 : qq_okc 245 (.invokestatic 296) [0, 244, 3, 0, 1483, 1484, 34, 1485] = true := by
  have e : qq_okc 245 (.invokestatic 296) [0, 244, 3, 0, 1483, 1484, 34, 1485] = (qq_cod 244 1485 && qq_np (qq_y 244) 3 && qq_is 1483 (.methodLink (qq_y 245).cls 296 (qq_y 244)) && qq_is 1484 (.static (qq_y 244)) && qq_is 34 (.initialized (qq_y 244).cls)) := rfl
  have h := r_244
  simp only [Bool.and_eq_true] at h
  rw [e, cod_244, h.1.1.1, h.1.1.2, h.1.2, h.2]
  rfl
theorem okp_244 {j a : Nat} (h : (decide (qq_pc 245 (j + 1) = a + 3) && qq_cv 245 j a) = true) : qq_okp 245 j (a, .invokestatic 296, 3, [0, 244, 3, 0, 1483, 1484, 34, 1485]) = true := by
  have e : qq_okp 245 j (a, .invokestatic 296, 3, [0, 244, 3, 0, 1483, 1484, 34, 1485]) = (qq_okc 245 (.invokestatic 296) [0, 244, 3, 0, 1483, 1484, 34, 1485] && decide (3 = 3) && decide (qq_pc 245 (j + 1) = a + 3) && qq_cv 245 j a) := rfl
  simp only [Bool.and_eq_true] at h
  rw [e, okc_244, h.1, h.2]
  rfl
theorem s_244_20 : qq_ra 245 [(33, .invokestatic 296, 3, [0, 244, 3, 0, 1483, 1484, 34, 1485])] 20 = true := by
  show (qq_okp 245 20 (33, .invokestatic 296, 3, [0, 244, 3, 0, 1483, 1484, 34, 1485]) && true) = true
  rw [okp_244 (by decide +kernel)]
  rfl
theorem cod_242 : qq_cod 242 1382 = true := by
  have h1 : qq_is 1382 (.code (qq_y 242) (qq_cd 242) (qq_maxL 242) (qq_ret 242)) = true := is_of_C (by decide +kernel)
  have h2 : decide (qq_maxL 242 ≤ 27) = true := by decide +kernel
  have h3 : decide (qq_hn 242 = []) = true := by decide +kernel
  unfold qq_cod
  rw [h1, h2, h3]
  rfl
theorem r_242 : (qq_np (qq_y 242) 1 && qq_is 1380 (.methodLink (qq_y 245).cls 300 (qq_y 242)) && qq_is 1381 (.static (qq_y 242)) && qq_is 34 (.initialized (qq_y 242).cls)) = true := by decide +kernel
theorem okc_242 : qq_okc 245 (.invokestatic 300) [0, 242, 1, 0, 1380, 1381, 34, 1382] = true := by
  have e : qq_okc 245 (.invokestatic 300) [0, 242, 1, 0, 1380, 1381, 34, 1382] = (qq_cod 242 1382 && qq_np (qq_y 242) 1 && qq_is 1380 (.methodLink (qq_y 245).cls 300 (qq_y 242)) && qq_is 1381 (.static (qq_y 242)) && qq_is 34 (.initialized (qq_y 242).cls)) := rfl
  have h := r_242
  simp only [Bool.and_eq_true] at h
  rw [e, cod_242, h.1.1.1, h.1.1.2, h.1.2, h.2]
  rfl
theorem okp_242 {j a : Nat} (h : (decide (qq_pc 245 (j + 1) = a + 3) && qq_cv 245 j a) = true) : qq_okp 245 j (a, .invokestatic 300, 3, [0, 242, 1, 0, 1380, 1381, 34, 1382]) = true := by
  have e : qq_okp 245 j (a, .invokestatic 300, 3, [0, 242, 1, 0, 1380, 1381, 34, 1382]) = (qq_okc 245 (.invokestatic 300) [0, 242, 1, 0, 1380, 1381, 34, 1382] && decide (3 = 3) && decide (qq_pc 245 (j + 1) = a + 3) && qq_cv 245 j a) := rfl
  simp only [Bool.and_eq_true] at h
  rw [e, okc_242, h.1, h.2]
  rfl
theorem s_242_30 : qq_ra 245 [(52, .invokestatic 300, 3, [0, 242, 1, 0, 1380, 1381, 34, 1382])] 30 = true := by
  show (qq_okp 245 30 (52, .invokestatic 300, 3, [0, 242, 1, 0, 1380, 1381, 34, 1382]) && true) = true
  rw [okp_242 (by decide +kernel)]
  rfl
theorem cod_241 : qq_cod 241 955 = true := by
  have h1 : qq_is 955 (.code (qq_y 241) (qq_cd 241) (qq_maxL 241) (qq_ret 241)) = true := is_of_C (by decide +kernel)
  have h2 : decide (qq_maxL 241 ≤ 27) = true := by decide +kernel
  have h3 : decide (qq_hn 241 = []) = true := by decide +kernel
  unfold qq_cod
  rw [h1, h2, h3]
  rfl
theorem r_241 : (qq_np (qq_y 241) 3 && qq_is 953 (.methodLink (qq_y 245).cls 304 (qq_y 241)) && qq_is 954 (.static (qq_y 241)) && qq_is 34 (.initialized (qq_y 241).cls)) = true := by decide +kernel
theorem okc_241 : qq_okc 245 (.invokestatic 304) [0, 241, 3, 0, 953, 954, 34, 955] = true := by
  have e : qq_okc 245 (.invokestatic 304) [0, 241, 3, 0, 953, 954, 34, 955] = (qq_cod 241 955 && qq_np (qq_y 241) 3 && qq_is 953 (.methodLink (qq_y 245).cls 304 (qq_y 241)) && qq_is 954 (.static (qq_y 241)) && qq_is 34 (.initialized (qq_y 241).cls)) := rfl
  have h := r_241
  simp only [Bool.and_eq_true] at h
  rw [e, cod_241, h.1.1.1, h.1.1.2, h.1.2, h.2]
  rfl
theorem okp_241 {j a : Nat} (h : (decide (qq_pc 245 (j + 1) = a + 3) && qq_cv 245 j a) = true) : qq_okp 245 j (a, .invokestatic 304, 3, [0, 241, 3, 0, 953, 954, 34, 955]) = true := by
  have e : qq_okp 245 j (a, .invokestatic 304, 3, [0, 241, 3, 0, 953, 954, 34, 955]) = (qq_okc 245 (.invokestatic 304) [0, 241, 3, 0, 953, 954, 34, 955] && decide (3 = 3) && decide (qq_pc 245 (j + 1) = a + 3) && qq_cv 245 j a) := rfl
  simp only [Bool.and_eq_true] at h
  rw [e, okc_241, h.1, h.2]
  rfl
theorem s_241_39 : qq_ra 245 [(66, .invokestatic 304, 3, [0, 241, 3, 0, 953, 954, 34, 955])] 39 = true := by
  show (qq_okp 245 39 (66, .invokestatic 304, 3, [0, 241, 3, 0, 953, 954, 34, 955]) && true) = true
  rw [okp_241 (by decide +kernel)]
  rfl
theorem s_244_44 : qq_ra 245 [(74, .invokestatic 296, 3, [0, 244, 3, 0, 1483, 1484, 34, 1485])] 44 = true := by
  show (qq_okp 245 44 (74, .invokestatic 296, 3, [0, 244, 3, 0, 1483, 1484, 34, 1485]) && true) = true
  rw [okp_244 (by decide +kernel)]
  rfl
theorem s_242_54 : qq_ra 245 [(98, .invokestatic 300, 3, [0, 242, 1, 0, 1380, 1381, 34, 1382])] 54 = true := by
  show (qq_okp 245 54 (98, .invokestatic 300, 3, [0, 242, 1, 0, 1380, 1381, 34, 1382]) && true) = true
  rw [okp_242 (by decide +kernel)]
  rfl
theorem s_242_74 : qq_ra 245 [(140, .invokestatic 300, 3, [0, 242, 1, 0, 1380, 1381, 34, 1382])] 74 = true := by
  show (qq_okp 245 74 (140, .invokestatic 300, 3, [0, 242, 1, 0, 1380, 1381, 34, 1382]) && true) = true
  rw [okp_242 (by decide +kernel)]
  rfl
theorem s_242_82 : qq_ra 245 [(158, .invokestatic 300, 3, [0, 242, 1, 0, 1380, 1381, 34, 1382])] 82 = true := by
  show (qq_okp 245 82 (158, .invokestatic 300, 3, [0, 242, 1, 0, 1380, 1381, 34, 1382]) && true) = true
  rw [okp_242 (by decide +kernel)]
  rfl
theorem s_242_110 : qq_ra 245 [(205, .invokestatic 300, 3, [0, 242, 1, 0, 1380, 1381, 34, 1382])] 110 = true := by
  show (qq_okp 245 110 (205, .invokestatic 300, 3, [0, 242, 1, 0, 1380, 1381, 34, 1382]) && true) = true
  rw [okp_242 (by decide +kernel)]
  rfl
theorem s_242_152 : qq_ra 245 [(278, .invokestatic 300, 3, [0, 242, 1, 0, 1380, 1381, 34, 1382])] 152 = true := by
  show (qq_okp 245 152 (278, .invokestatic 300, 3, [0, 242, 1, 0, 1380, 1381, 34, 1382]) && true) = true
  rw [okp_242 (by decide +kernel)]
  rfl
theorem p_tb_245_0_0 : qq_ra 245 ((tb_245_0).take 1) 0 = true := by decide +kernel
theorem l_tb_245_0_0 : ((tb_245_0).take 1).length = 1 := by decide +kernel
set_option maxRecDepth 100000 in
theorem p_tb_245_0_1 : qq_ra 245 (((tb_245_0).drop 1).take 1) 1 = true := s_239_1
theorem l_tb_245_0_1 : (((tb_245_0).drop 1).take 1).length = 1 := by decide +kernel
theorem p_tb_245_0_2 : qq_ra 245 ((((tb_245_0).drop 1).drop 1).take 18) 2 = true := by decide +kernel
theorem l_tb_245_0_2 : ((((tb_245_0).drop 1).drop 1).take 18).length = 18 := by decide +kernel
set_option maxRecDepth 100000 in
theorem p_tb_245_0_20 : qq_ra 245 (((((tb_245_0).drop 1).drop 1).drop 18).take 1) 20 = true := s_244_20
theorem l_tb_245_0_20 : (((((tb_245_0).drop 1).drop 1).drop 18).take 1).length = 1 := by decide +kernel
theorem p_tb_245_0_21 : qq_ra 245 ((((((tb_245_0).drop 1).drop 1).drop 18).drop 1).take 9) 21 = true := by decide +kernel
theorem l_tb_245_0_21 : ((((((tb_245_0).drop 1).drop 1).drop 18).drop 1).take 9).length = 9 := by decide +kernel
set_option maxRecDepth 100000 in
theorem p_tb_245_0_30 : qq_ra 245 (((((((tb_245_0).drop 1).drop 1).drop 18).drop 1).drop 9).take 1) 30 = true := s_242_30
theorem l_tb_245_0_30 : (((((((tb_245_0).drop 1).drop 1).drop 18).drop 1).drop 9).take 1).length = 1 := by decide +kernel
theorem p_tb_245_0_31 : qq_ra 245 ((((((((tb_245_0).drop 1).drop 1).drop 18).drop 1).drop 9).drop 1).take 8) 31 = true := by decide +kernel
theorem l_tb_245_0_31 : ((((((((tb_245_0).drop 1).drop 1).drop 18).drop 1).drop 9).drop 1).take 8).length = 8 := by decide +kernel
set_option maxRecDepth 100000 in
theorem p_tb_245_0_39 : qq_ra 245 (((((((((tb_245_0).drop 1).drop 1).drop 18).drop 1).drop 9).drop 1).drop 8).take 1) 39 = true := s_241_39
theorem l_tb_245_0_39 : (((((((((tb_245_0).drop 1).drop 1).drop 18).drop 1).drop 9).drop 1).drop 8).take 1).length = 1 := by decide +kernel
theorem p_tb_245_0_40 : qq_ra 245 ((((((((((tb_245_0).drop 1).drop 1).drop 18).drop 1).drop 9).drop 1).drop 8).drop 1).take 4) 40 = true := by decide +kernel
theorem l_tb_245_0_40 : ((((((((((tb_245_0).drop 1).drop 1).drop 18).drop 1).drop 9).drop 1).drop 8).drop 1).take 4).length = 4 := by decide +kernel
set_option maxRecDepth 100000 in
theorem p_tb_245_0_44 : qq_ra 245 (((((((((((tb_245_0).drop 1).drop 1).drop 18).drop 1).drop 9).drop 1).drop 8).drop 1).drop 4).take 1) 44 = true := s_244_44
theorem l_tb_245_0_44 : (((((((((((tb_245_0).drop 1).drop 1).drop 18).drop 1).drop 9).drop 1).drop 8).drop 1).drop 4).take 1).length = 1 := by decide +kernel
theorem p_tb_245_0_45 : qq_ra 245 ((((((((((((tb_245_0).drop 1).drop 1).drop 18).drop 1).drop 9).drop 1).drop 8).drop 1).drop 4).drop 1).take 9) 45 = true := by decide +kernel
theorem l_tb_245_0_45 : ((((((((((((tb_245_0).drop 1).drop 1).drop 18).drop 1).drop 9).drop 1).drop 8).drop 1).drop 4).drop 1).take 9).length = 9 := by decide +kernel
set_option maxRecDepth 100000 in
theorem p_tb_245_0_54 : qq_ra 245 (((((((((((((tb_245_0).drop 1).drop 1).drop 18).drop 1).drop 9).drop 1).drop 8).drop 1).drop 4).drop 1).drop 9).take 1) 54 = true := s_242_54
theorem l_tb_245_0_54 : (((((((((((((tb_245_0).drop 1).drop 1).drop 18).drop 1).drop 9).drop 1).drop 8).drop 1).drop 4).drop 1).drop 9).take 1).length = 1 := by decide +kernel
theorem p_tb_245_0_55 : qq_ra 245 ((((((((((((((tb_245_0).drop 1).drop 1).drop 18).drop 1).drop 9).drop 1).drop 8).drop 1).drop 4).drop 1).drop 9).drop 1).take 19) 55 = true := by decide +kernel
theorem l_tb_245_0_55 : ((((((((((((((tb_245_0).drop 1).drop 1).drop 18).drop 1).drop 9).drop 1).drop 8).drop 1).drop 4).drop 1).drop 9).drop 1).take 19).length = 19 := by decide +kernel
set_option maxRecDepth 100000 in
theorem p_tb_245_0_74 : qq_ra 245 (((((((((((((((tb_245_0).drop 1).drop 1).drop 18).drop 1).drop 9).drop 1).drop 8).drop 1).drop 4).drop 1).drop 9).drop 1).drop 19).take 1) 74 = true := s_242_74
theorem l_tb_245_0_74 : (((((((((((((((tb_245_0).drop 1).drop 1).drop 18).drop 1).drop 9).drop 1).drop 8).drop 1).drop 4).drop 1).drop 9).drop 1).drop 19).take 1).length = 1 := by decide +kernel
theorem p_tb_245_0_75 : qq_ra 245 ((((((((((((((((tb_245_0).drop 1).drop 1).drop 18).drop 1).drop 9).drop 1).drop 8).drop 1).drop 4).drop 1).drop 9).drop 1).drop 19).drop 1).take 7) 75 = true := by decide +kernel
theorem l_tb_245_0_75 : ((((((((((((((((tb_245_0).drop 1).drop 1).drop 18).drop 1).drop 9).drop 1).drop 8).drop 1).drop 4).drop 1).drop 9).drop 1).drop 19).drop 1).take 7).length = 7 := by decide +kernel
set_option maxRecDepth 100000 in
theorem p_tb_245_0_82 : qq_ra 245 (((((((((((((((((tb_245_0).drop 1).drop 1).drop 18).drop 1).drop 9).drop 1).drop 8).drop 1).drop 4).drop 1).drop 9).drop 1).drop 19).drop 1).drop 7).take 1) 82 = true := s_242_82
theorem l_tb_245_0_82 : (((((((((((((((((tb_245_0).drop 1).drop 1).drop 18).drop 1).drop 9).drop 1).drop 8).drop 1).drop 4).drop 1).drop 9).drop 1).drop 19).drop 1).drop 7).take 1).length = 1 := by decide +kernel
theorem p_tb_245_0_83 : qq_ra 245 ((((((((((((((((((tb_245_0).drop 1).drop 1).drop 18).drop 1).drop 9).drop 1).drop 8).drop 1).drop 4).drop 1).drop 9).drop 1).drop 19).drop 1).drop 7).drop 1).take 27) 83 = true := by decide +kernel
theorem l_tb_245_0_83 : ((((((((((((((((((tb_245_0).drop 1).drop 1).drop 18).drop 1).drop 9).drop 1).drop 8).drop 1).drop 4).drop 1).drop 9).drop 1).drop 19).drop 1).drop 7).drop 1).take 27).length = 27 := by decide +kernel
set_option maxRecDepth 100000 in
theorem p_tb_245_0_110 : qq_ra 245 (((((((((((((((((((tb_245_0).drop 1).drop 1).drop 18).drop 1).drop 9).drop 1).drop 8).drop 1).drop 4).drop 1).drop 9).drop 1).drop 19).drop 1).drop 7).drop 1).drop 27).take 1) 110 = true := s_242_110
theorem l_tb_245_0_110 : (((((((((((((((((((tb_245_0).drop 1).drop 1).drop 18).drop 1).drop 9).drop 1).drop 8).drop 1).drop 4).drop 1).drop 9).drop 1).drop 19).drop 1).drop 7).drop 1).drop 27).take 1).length = 1 := by decide +kernel
theorem p_tb_245_0_111 : qq_ra 245 (((((((((((((((((((tb_245_0).drop 1).drop 1).drop 18).drop 1).drop 9).drop 1).drop 8).drop 1).drop 4).drop 1).drop 9).drop 1).drop 19).drop 1).drop 7).drop 1).drop 27).drop 1) 111 = true := by decide +kernel
theorem p_tb_245_0 : qq_ra 245 tb_245_0 0 = true := (ra_td 1 p_tb_245_0_0 l_tb_245_0_0 (ra_td 1 p_tb_245_0_1 l_tb_245_0_1 (ra_td 18 p_tb_245_0_2 l_tb_245_0_2 (ra_td 1 p_tb_245_0_20 l_tb_245_0_20 (ra_td 9 p_tb_245_0_21 l_tb_245_0_21 (ra_td 1 p_tb_245_0_30 l_tb_245_0_30 (ra_td 8 p_tb_245_0_31 l_tb_245_0_31 (ra_td 1 p_tb_245_0_39 l_tb_245_0_39 (ra_td 4 p_tb_245_0_40 l_tb_245_0_40 (ra_td 1 p_tb_245_0_44 l_tb_245_0_44 (ra_td 9 p_tb_245_0_45 l_tb_245_0_45 (ra_td 1 p_tb_245_0_54 l_tb_245_0_54 (ra_td 19 p_tb_245_0_55 l_tb_245_0_55 (ra_td 1 p_tb_245_0_74 l_tb_245_0_74 (ra_td 7 p_tb_245_0_75 l_tb_245_0_75 (ra_td 1 p_tb_245_0_82 l_tb_245_0_82 (ra_td 27 p_tb_245_0_83 l_tb_245_0_83 (ra_td 1 p_tb_245_0_110 l_tb_245_0_110 p_tb_245_0_111))))))))))))))))))
theorem l_245_0 : tb_245_0.length = 120 := by decide +kernel
theorem p_tb_245_1_0 : qq_ra 245 ((tb_245_1).take 32) 120 = true := by decide +kernel
theorem l_tb_245_1_0 : ((tb_245_1).take 32).length = 32 := by decide +kernel
set_option maxRecDepth 100000 in
theorem p_tb_245_1_32 : qq_ra 245 (((tb_245_1).drop 32).take 1) 152 = true := s_242_152
theorem l_tb_245_1_32 : (((tb_245_1).drop 32).take 1).length = 1 := by decide +kernel
theorem p_tb_245_1_33 : qq_ra 245 (((tb_245_1).drop 32).drop 1) 153 = true := by decide +kernel
theorem p_tb_245_1 : qq_ra 245 tb_245_1 120 = true := (ra_td 32 p_tb_245_1_0 l_tb_245_1_0 (ra_td 1 p_tb_245_1_32 l_tb_245_1_32 p_tb_245_1_33))
theorem t_245r : qq_ra 245 tb_245 0 = true := ra_cat p_tb_245_0 l_245_0 p_tb_245_1
theorem t_a245 : qq_okm 245 = true := by
  have h : qq_ra 245 (qq_tab.getD 245 []) 0 = true := t_245r
  unfold qq_okm
  rw [t_245d, h]
  rfl
