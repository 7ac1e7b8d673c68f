/-! THE MODEL: reading the script -/
theorem lk_a {T : List Nat} {pos : Nat} (h : sg T pos = 97) : (lk T pos 9).1 = 1 := by
  have c0 : cml T (frm 0) pos = 0 := by show cml T [112, 101, 100, 101, 115, 116, 97, 108] pos = 0; rw [cml, if_neg (by omega)]
  have c1 : cml T (frm 1) pos = cml T [114, 114, 111, 119, 32, 35, 35] (pos + 1) + 1 := by show cml T [97, 114, 114, 111, 119, 32, 35, 35] pos = _; rw [cml, if_pos h]
  have c2 : cml T (frm 2) pos = 0 := by show cml T [115, 116, 97, 116, 117, 101, 32, 35, 32, 37] pos = 0; rw [cml, if_neg (by omega)]
  have c3 : cml T (frm 3) pos = 0 := by show cml T [104, 111, 109, 101, 32, 35, 35] pos = 0; rw [cml, if_neg (by omega)]
  have c4 : cml T (frm 4) pos = 0 := by show cml T [119, 114, 105, 116, 32, 35, 32, 37, 32, 37, 91, 60, 37, 93] pos = 0; rw [cml, if_neg (by omega)]
  have c5 : cml T (frm 5) pos = 0 := by show cml T [98, 108, 111, 99, 107, 32, 37, 32, 35] pos = 0; rw [cml, if_neg (by omega)]
  have c6 : cml T (frm 6) pos = 0 := by show cml T [112, 97, 121, 32, 37] pos = 0; rw [cml, if_neg (by omega)]
  have c7 : cml T (frm 7) pos = 0 := by show cml T [104, 101, 97, 114, 32, 37] pos = 0; rw [cml, if_neg (by omega)]
  have c8 : cml T (frm 8) pos = 0 := by show cml T [110, 105, 103, 104, 116, 91, 32, 37, 93] pos = 0; rw [cml, if_neg (by omega)]
  generalize cml T [114, 114, 111, 119, 32, 35, 35] (pos + 1) = u at *
  simp only [lk, c0, c1, c2, c3, c4, c5, c6, c7, c8, Nat.lt_irrefl, if_false, Nat.not_lt_zero, Nat.zero_lt_succ, if_true]
theorem lk_s {T : List Nat} {pos : Nat} (h : sg T pos = 115) : (lk T pos 9).1 = 2 := by
  have c0 : cml T (frm 0) pos = 0 := by show cml T [112, 101, 100, 101, 115, 116, 97, 108] pos = 0; rw [cml, if_neg (by omega)]
  have c1 : cml T (frm 1) pos = 0 := by show cml T [97, 114, 114, 111, 119, 32, 35, 35] pos = 0; rw [cml, if_neg (by omega)]
  have c2 : cml T (frm 2) pos = cml T [116, 97, 116, 117, 101, 32, 35, 32, 37] (pos + 1) + 1 := by show cml T [115, 116, 97, 116, 117, 101, 32, 35, 32, 37] pos = _; rw [cml, if_pos h]
  have c3 : cml T (frm 3) pos = 0 := by show cml T [104, 111, 109, 101, 32, 35, 35] pos = 0; rw [cml, if_neg (by omega)]
  have c4 : cml T (frm 4) pos = 0 := by show cml T [119, 114, 105, 116, 32, 35, 32, 37, 32, 37, 91, 60, 37, 93] pos = 0; rw [cml, if_neg (by omega)]
  have c5 : cml T (frm 5) pos = 0 := by show cml T [98, 108, 111, 99, 107, 32, 37, 32, 35] pos = 0; rw [cml, if_neg (by omega)]
  have c6 : cml T (frm 6) pos = 0 := by show cml T [112, 97, 121, 32, 37] pos = 0; rw [cml, if_neg (by omega)]
  have c7 : cml T (frm 7) pos = 0 := by show cml T [104, 101, 97, 114, 32, 37] pos = 0; rw [cml, if_neg (by omega)]
  have c8 : cml T (frm 8) pos = 0 := by show cml T [110, 105, 103, 104, 116, 91, 32, 37, 93] pos = 0; rw [cml, if_neg (by omega)]
  generalize cml T [116, 97, 116, 117, 101, 32, 35, 32, 37] (pos + 1) = u at *
  simp only [lk, c0, c1, c2, c3, c4, c5, c6, c7, c8, Nat.lt_irrefl, if_false, Nat.not_lt_zero, Nat.zero_lt_succ, if_true]
theorem lk_w {T : List Nat} {pos : Nat} (h : sg T pos = 119) : (lk T pos 9).1 = 4 := by
  have c0 : cml T (frm 0) pos = 0 := by show cml T [112, 101, 100, 101, 115, 116, 97, 108] pos = 0; rw [cml, if_neg (by omega)]
  have c1 : cml T (frm 1) pos = 0 := by show cml T [97, 114, 114, 111, 119, 32, 35, 35] pos = 0; rw [cml, if_neg (by omega)]
  have c2 : cml T (frm 2) pos = 0 := by show cml T [115, 116, 97, 116, 117, 101, 32, 35, 32, 37] pos = 0; rw [cml, if_neg (by omega)]
  have c3 : cml T (frm 3) pos = 0 := by show cml T [104, 111, 109, 101, 32, 35, 35] pos = 0; rw [cml, if_neg (by omega)]
  have c4 : cml T (frm 4) pos = cml T [114, 105, 116, 32, 35, 32, 37, 32, 37, 91, 60, 37, 93] (pos + 1) + 1 := by show cml T [119, 114, 105, 116, 32, 35, 32, 37, 32, 37, 91, 60, 37, 93] pos = _; rw [cml, if_pos h]
  have c5 : cml T (frm 5) pos = 0 := by show cml T [98, 108, 111, 99, 107, 32, 37, 32, 35] pos = 0; rw [cml, if_neg (by omega)]
  have c6 : cml T (frm 6) pos = 0 := by show cml T [112, 97, 121, 32, 37] pos = 0; rw [cml, if_neg (by omega)]
  have c7 : cml T (frm 7) pos = 0 := by show cml T [104, 101, 97, 114, 32, 37] pos = 0; rw [cml, if_neg (by omega)]
  have c8 : cml T (frm 8) pos = 0 := by show cml T [110, 105, 103, 104, 116, 91, 32, 37, 93] pos = 0; rw [cml, if_neg (by omega)]
  generalize cml T [114, 105, 116, 32, 35, 32, 37, 32, 37, 91, 60, 37, 93] (pos + 1) = u at *
  simp only [lk, c0, c1, c2, c3, c4, c5, c6, c7, c8, Nat.lt_irrefl, if_false, Nat.not_lt_zero, Nat.zero_lt_succ, if_true]
theorem lk_b {T : List Nat} {pos : Nat} (h : sg T pos = 98) : (lk T pos 9).1 = 5 := by
  have c0 : cml T (frm 0) pos = 0 := by show cml T [112, 101, 100, 101, 115, 116, 97, 108] pos = 0; rw [cml, if_neg (by omega)]
  have c1 : cml T (frm 1) pos = 0 := by show cml T [97, 114, 114, 111, 119, 32, 35, 35] pos = 0; rw [cml, if_neg (by omega)]
  have c2 : cml T (frm 2) pos = 0 := by show cml T [115, 116, 97, 116, 117, 101, 32, 35, 32, 37] pos = 0; rw [cml, if_neg (by omega)]
  have c3 : cml T (frm 3) pos = 0 := by show cml T [104, 111, 109, 101, 32, 35, 35] pos = 0; rw [cml, if_neg (by omega)]
  have c4 : cml T (frm 4) pos = 0 := by show cml T [119, 114, 105, 116, 32, 35, 32, 37, 32, 37, 91, 60, 37, 93] pos = 0; rw [cml, if_neg (by omega)]
  have c5 : cml T (frm 5) pos = cml T [108, 111, 99, 107, 32, 37, 32, 35] (pos + 1) + 1 := by show cml T [98, 108, 111, 99, 107, 32, 37, 32, 35] pos = _; rw [cml, if_pos h]
  have c6 : cml T (frm 6) pos = 0 := by show cml T [112, 97, 121, 32, 37] pos = 0; rw [cml, if_neg (by omega)]
  have c7 : cml T (frm 7) pos = 0 := by show cml T [104, 101, 97, 114, 32, 37] pos = 0; rw [cml, if_neg (by omega)]
  have c8 : cml T (frm 8) pos = 0 := by show cml T [110, 105, 103, 104, 116, 91, 32, 37, 93] pos = 0; rw [cml, if_neg (by omega)]
  generalize cml T [108, 111, 99, 107, 32, 37, 32, 35] (pos + 1) = u at *
  simp only [lk, c0, c1, c2, c3, c4, c5, c6, c7, c8, Nat.lt_irrefl, if_false, Nat.not_lt_zero, Nat.zero_lt_succ, if_true]
theorem lk_n {T : List Nat} {pos : Nat} (h : sg T pos = 110) : (lk T pos 9).1 = 8 := by
  have c0 : cml T (frm 0) pos = 0 := by show cml T [112, 101, 100, 101, 115, 116, 97, 108] pos = 0; rw [cml, if_neg (by omega)]
  have c1 : cml T (frm 1) pos = 0 := by show cml T [97, 114, 114, 111, 119, 32, 35, 35] pos = 0; rw [cml, if_neg (by omega)]
  have c2 : cml T (frm 2) pos = 0 := by show cml T [115, 116, 97, 116, 117, 101, 32, 35, 32, 37] pos = 0; rw [cml, if_neg (by omega)]
  have c3 : cml T (frm 3) pos = 0 := by show cml T [104, 111, 109, 101, 32, 35, 35] pos = 0; rw [cml, if_neg (by omega)]
  have c4 : cml T (frm 4) pos = 0 := by show cml T [119, 114, 105, 116, 32, 35, 32, 37, 32, 37, 91, 60, 37, 93] pos = 0; rw [cml, if_neg (by omega)]
  have c5 : cml T (frm 5) pos = 0 := by show cml T [98, 108, 111, 99, 107, 32, 37, 32, 35] pos = 0; rw [cml, if_neg (by omega)]
  have c6 : cml T (frm 6) pos = 0 := by show cml T [112, 97, 121, 32, 37] pos = 0; rw [cml, if_neg (by omega)]
  have c7 : cml T (frm 7) pos = 0 := by show cml T [104, 101, 97, 114, 32, 37] pos = 0; rw [cml, if_neg (by omega)]
  have c8 : cml T (frm 8) pos = cml T [105, 103, 104, 116, 91, 32, 37, 93] (pos + 1) + 1 := by show cml T [110, 105, 103, 104, 116, 91, 32, 37, 93] pos = _; rw [cml, if_pos h]
  generalize cml T [105, 103, 104, 116, 91, 32, 37, 93] (pos + 1) = u at *
  simp only [lk, c0, c1, c2, c3, c4, c5, c6, c7, c8, Nat.lt_irrefl, if_false, Nat.not_lt_zero, Nat.zero_lt_succ, if_true]
theorem lk_p {T : List Nat} {pos : Nat} (h : sg T pos = 112) : (lk T pos 9).1 = if sg T (pos + 1) = 97 then 6 else 0 := by
  have c0 : cml T (frm 0) pos = cml T [101, 100, 101, 115, 116, 97, 108] (pos + 1) + 1 := by show cml T [112, 101, 100, 101, 115, 116, 97, 108] pos = _; rw [cml, if_pos h]
  have c1 : cml T (frm 1) pos = 0 := by show cml T [97, 114, 114, 111, 119, 32, 35, 35] pos = 0; rw [cml, if_neg (by omega)]
  have c2 : cml T (frm 2) pos = 0 := by show cml T [115, 116, 97, 116, 117, 101, 32, 35, 32, 37] pos = 0; rw [cml, if_neg (by omega)]
  have c3 : cml T (frm 3) pos = 0 := by show cml T [104, 111, 109, 101, 32, 35, 35] pos = 0; rw [cml, if_neg (by omega)]
  have c4 : cml T (frm 4) pos = 0 := by show cml T [119, 114, 105, 116, 32, 35, 32, 37, 32, 37, 91, 60, 37, 93] pos = 0; rw [cml, if_neg (by omega)]
  have c5 : cml T (frm 5) pos = 0 := by show cml T [98, 108, 111, 99, 107, 32, 37, 32, 35] pos = 0; rw [cml, if_neg (by omega)]
  have c6 : cml T (frm 6) pos = cml T [97, 121, 32, 37] (pos + 1) + 1 := by show cml T [112, 97, 121, 32, 37] pos = _; rw [cml, if_pos h]
  have c7 : cml T (frm 7) pos = 0 := by show cml T [104, 101, 97, 114, 32, 37] pos = 0; rw [cml, if_neg (by omega)]
  have c8 : cml T (frm 8) pos = 0 := by show cml T [110, 105, 103, 104, 116, 91, 32, 37, 93] pos = 0; rw [cml, if_neg (by omega)]
  have d1 : cml T [101, 100, 101, 115, 116, 97, 108] (pos + 1) = if sg T (pos + 1) = 101 then cml T [100, 101, 115, 116, 97, 108] (pos + 1 + 1) + 1 else 0 := by rw [cml]
  have d2 : cml T [97, 121, 32, 37] (pos + 1) = if sg T (pos + 1) = 97 then cml T [121, 32, 37] (pos + 1 + 1) + 1 else 0 := by rw [cml]
  generalize cml T [100, 101, 115, 116, 97, 108] (pos + 1 + 1) = u at *
  generalize cml T [121, 32, 37] (pos + 1 + 1) = v at *
  rw [d1] at c0
  rw [d2] at c6
  by_cases z : sg T (pos + 1) = 97
  · rw [if_pos z] at c6 ⊢
    rw [if_neg (by omega)] at c0
    simp only [lk, c0, c1, c2, c3, c4, c5, c6, c7, c8, Nat.lt_irrefl, if_false, Nat.not_lt_zero, Nat.zero_lt_succ, if_true, Nat.zero_add]
    simp
  · rw [if_neg z] at c6 ⊢
    by_cases z2 : sg T (pos + 1) = 101
    · rw [if_pos z2] at c0
      simp only [lk, c0, c1, c2, c3, c4, c5, c6, c7, c8, Nat.lt_irrefl, if_false, Nat.not_lt_zero, Nat.zero_lt_succ, if_true, Nat.zero_add]
      simp
    · rw [if_neg z2] at c0
      simp only [lk, c0, c1, c2, c3, c4, c5, c6, c7, c8, Nat.lt_irrefl, if_false, Nat.not_lt_zero, Nat.zero_lt_succ, if_true, Nat.zero_add]
theorem lk_h {T : List Nat} {pos : Nat} (h : sg T pos = 104) : (lk T pos 9).1 = if sg T (pos + 1) = 101 then 7 else 3 := by
  have c0 : cml T (frm 0) pos = 0 := by show cml T [112, 101, 100, 101, 115, 116, 97, 108] pos = 0; rw [cml, if_neg (by omega)]
  have c1 : cml T (frm 1) pos = 0 := by show cml T [97, 114, 114, 111, 119, 32, 35, 35] pos = 0; rw [cml, if_neg (by omega)]
  have c2 : cml T (frm 2) pos = 0 := by show cml T [115, 116, 97, 116, 117, 101, 32, 35, 32, 37] pos = 0; rw [cml, if_neg (by omega)]
  have c3 : cml T (frm 3) pos = cml T [111, 109, 101, 32, 35, 35] (pos + 1) + 1 := by show cml T [104, 111, 109, 101, 32, 35, 35] pos = _; rw [cml, if_pos h]
  have c4 : cml T (frm 4) pos = 0 := by show cml T [119, 114, 105, 116, 32, 35, 32, 37, 32, 37, 91, 60, 37, 93] pos = 0; rw [cml, if_neg (by omega)]
  have c5 : cml T (frm 5) pos = 0 := by show cml T [98, 108, 111, 99, 107, 32, 37, 32, 35] pos = 0; rw [cml, if_neg (by omega)]
  have c6 : cml T (frm 6) pos = 0 := by show cml T [112, 97, 121, 32, 37] pos = 0; rw [cml, if_neg (by omega)]
  have c7 : cml T (frm 7) pos = cml T [101, 97, 114, 32, 37] (pos + 1) + 1 := by show cml T [104, 101, 97, 114, 32, 37] pos = _; rw [cml, if_pos h]
  have c8 : cml T (frm 8) pos = 0 := by show cml T [110, 105, 103, 104, 116, 91, 32, 37, 93] pos = 0; rw [cml, if_neg (by omega)]
  have d1 : cml T [111, 109, 101, 32, 35, 35] (pos + 1) = if sg T (pos + 1) = 111 then cml T [109, 101, 32, 35, 35] (pos + 1 + 1) + 1 else 0 := by rw [cml]
  have d2 : cml T [101, 97, 114, 32, 37] (pos + 1) = if sg T (pos + 1) = 101 then cml T [97, 114, 32, 37] (pos + 1 + 1) + 1 else 0 := by rw [cml]
  generalize cml T [109, 101, 32, 35, 35] (pos + 1 + 1) = u at *
  generalize cml T [97, 114, 32, 37] (pos + 1 + 1) = v at *
  rw [d1] at c3
  rw [d2] at c7
  by_cases z : sg T (pos + 1) = 101
  · rw [if_pos z] at c7 ⊢
    rw [if_neg (by omega)] at c3
    simp only [lk, c0, c1, c2, c3, c4, c5, c6, c7, c8, Nat.lt_irrefl, if_false, Nat.not_lt_zero, Nat.zero_lt_succ, if_true, Nat.zero_add]
    simp
  · rw [if_neg z] at c7 ⊢
    by_cases z2 : sg T (pos + 1) = 111
    · rw [if_pos z2] at c3
      simp only [lk, c0, c1, c2, c3, c4, c5, c6, c7, c8, Nat.lt_irrefl, if_false, Nat.not_lt_zero, Nat.zero_lt_succ, if_true, Nat.zero_add]
      simp
    · rw [if_neg z2] at c3
      simp only [lk, c0, c1, c2, c3, c4, c5, c6, c7, c8, Nat.lt_irrefl, if_false, Nat.not_lt_zero, Nat.zero_lt_succ, if_true, Nat.zero_add]
theorem lk_0 {T : List Nat} {pos : Nat} (h1 : sg T pos ≠ 112) (h2 : sg T pos ≠ 97) (h3 : sg T pos ≠ 115) (h4 : sg T pos ≠ 104) (h5 : sg T pos ≠ 119) (h6 : sg T pos ≠ 98) (h7 : sg T pos ≠ 110) : (lk T pos 9).1 = 0 := by
  have c0 : cml T (frm 0) pos = 0 := by show cml T [112, 101, 100, 101, 115, 116, 97, 108] pos = 0; rw [cml, if_neg (by assumption)]
  have c1 : cml T (frm 1) pos = 0 := by show cml T [97, 114, 114, 111, 119, 32, 35, 35] pos = 0; rw [cml, if_neg (by assumption)]
  have c2 : cml T (frm 2) pos = 0 := by show cml T [115, 116, 97, 116, 117, 101, 32, 35, 32, 37] pos = 0; rw [cml, if_neg (by assumption)]
  have c3 : cml T (frm 3) pos = 0 := by show cml T [104, 111, 109, 101, 32, 35, 35] pos = 0; rw [cml, if_neg (by assumption)]
  have c4 : cml T (frm 4) pos = 0 := by show cml T [119, 114, 105, 116, 32, 35, 32, 37, 32, 37, 91, 60, 37, 93] pos = 0; rw [cml, if_neg (by assumption)]
  have c5 : cml T (frm 5) pos = 0 := by show cml T [98, 108, 111, 99, 107, 32, 37, 32, 35] pos = 0; rw [cml, if_neg (by assumption)]
  have c6 : cml T (frm 6) pos = 0 := by show cml T [112, 97, 121, 32, 37] pos = 0; rw [cml, if_neg (by assumption)]
  have c7 : cml T (frm 7) pos = 0 := by show cml T [104, 101, 97, 114, 32, 37] pos = 0; rw [cml, if_neg (by assumption)]
  have c8 : cml T (frm 8) pos = 0 := by show cml T [110, 105, 103, 104, 116, 91, 32, 37, 93] pos = 0; rw [cml, if_neg (by assumption)]
  simp only [lk, c0, c1, c2, c3, c4, c5, c6, c7, c8, Nat.lt_irrefl, if_false]
/-- where two forms fail alike -/
theorem OC_alike {m : Nat} {I J J' : qq_I} {T : List Nat} {b k k' pos : Nat} (h : OC m I T J J' b k pos) (e : rdF T (frm k') pos [] = rdF T (frm k) pos []) (hf : (rdF T (frm k) pos []).1 = false) : OC m I T J J' b k' pos := by
  unfold OC at *
  rw [e]
  exact ⟨h.1, h.2.1, h.2.2.1, fun q => by rw [hf] at q; exact Bool.noConfusion q⟩
theorem alike_p {T : List Nat} {pos : Nat} (h : sg T pos = 112) (z1 : sg T (pos + 1) ≠ 101) (z2 : sg T (pos + 1) ≠ 97) : rdF T (frm 0) pos [] = (false, pos + 1, []) ∧ rdF T (frm 6) pos [] = (false, pos + 1, []) :=
  ⟨(rdF_c (T := T) (ch := 112) (by decide) [101, 100, 101, 115, 116, 97, 108] pos []).trans ((if_pos h).trans ((rdF_c (T := T) (ch := 101) (by decide) [100, 101, 115, 116, 97, 108] (pos + 1) []).trans (if_neg z1))), (rdF_c (T := T) (ch := 112) (by decide) [97, 121, 32, 37] pos []).trans ((if_pos h).trans ((rdF_c (T := T) (ch := 97) (by decide) [121, 32, 37] (pos + 1) []).trans (if_neg z2)))⟩
theorem alike_h {T : List Nat} {pos : Nat} (h : sg T pos = 104) (z1 : sg T (pos + 1) ≠ 111) (z2 : sg T (pos + 1) ≠ 101) : rdF T (frm 3) pos [] = (false, pos + 1, []) ∧ rdF T (frm 7) pos [] = (false, pos + 1, []) :=
  ⟨(rdF_c (T := T) (ch := 104) (by decide) [111, 109, 101, 32, 35, 35] pos []).trans ((if_pos h).trans ((rdF_c (T := T) (ch := 111) (by decide) [109, 101, 32, 35, 35] (pos + 1) []).trans (if_neg z1))), (rdF_c (T := T) (ch := 104) (by decide) [101, 97, 114, 32, 37] pos []).trans ((if_pos h).trans ((rdF_c (T := T) (ch := 101) (by decide) [97, 114, 32, 37] (pos + 1) []).trans (if_neg z2)))⟩
/-- letters that begin a command -/
def fst7 (c : Nat) : Bool := (c == 112) || (c == 104) || (c == 119) || (c == 110) || (c == 97) || (c == 115) || (c == 98)
theorem rdF_no {T : List Nat} {pos : Nat} (h : fst7 (sg T pos) = false) : rdF T (frm (lk T pos 9).1) pos [] = (false, pos, []) := by
  unfold fst7 at h
  simp only [Bool.or_eq_false_iff, beq_eq_false_iff_ne] at h
  obtain ⟨⟨⟨⟨⟨⟨h1, h4⟩, h5⟩, h7⟩, h2⟩, h3⟩, h6⟩ := h
  rw [lk_0 h1 h2 h3 h4 h5 h6 h7]
  exact (rdF_c (T := T) (ch := 112) (by decide) [101, 100, 101, 115, 116, 97, 108] pos []).trans (if_neg h1)
section MRS
variable {d : Nat} {I J : qq_I} {τ : qq_R} {m pos b : Nat} {T : List Nat}
theorem c_fst {x : Int32} {σ : qq_S} : CC d 319 [.int x] σ = some (.inl (some (.int (b01 (decide (x = iN 112) || decide (x = iN 104) || decide (x = iN 119) || decide (x = iN 110) || decide (x = iN 97) || decide (x = iN 115) || decide (x = iN 98))))), σ) := by
  have e1 : RR d 319 21 [some (.int x)] [] σ = some (.inl (some (.int (iN 1))), σ) := by rw [b_319_21, b_319_24, gd_t (of_eq_true nr_b1)]
  have e0 : RR d 319 24 [some (.int x)] [.int (iN 0)] σ = some (.inl (some (.int (iN 0))), σ) := by rw [b_319_24, gd_t (of_eq_true nr_b0)]
  rw [c_319, b_319_0, e1, e0]
  by_cases a1 : x = iN 112
  · rw [if_pos a1, decide_eq_true a1]; simp only [Bool.true_or]; rfl
  · rw [if_neg a1, decide_eq_false a1]
    by_cases a2 : x = iN 104
    · rw [if_pos a2, decide_eq_true a2]; simp only [Bool.true_or, Bool.or_true, Bool.false_or]; rfl
    · rw [if_neg a2, decide_eq_false a2]
      by_cases a3 : x = iN 119
      · rw [if_pos a3, decide_eq_true a3]; simp only [Bool.true_or, Bool.or_true, Bool.false_or]; rfl
      · rw [if_neg a3, decide_eq_false a3]
        by_cases a4 : x = iN 110
        · rw [if_pos a4, decide_eq_true a4]; simp only [Bool.true_or, Bool.or_true, Bool.false_or]; rfl
        · rw [if_neg a4, decide_eq_false a4]
          by_cases a5 : x = iN 97
          · rw [if_pos a5, decide_eq_true a5]; simp only [Bool.true_or, Bool.or_true, Bool.false_or]; rfl
          · rw [if_neg a5, decide_eq_false a5]
            by_cases a6 : x = iN 115
            · rw [if_pos a6, decide_eq_true a6]; simp only [Bool.true_or, Bool.or_true, Bool.false_or]; rfl
            · rw [if_neg a6, decide_eq_false a6]
              by_cases a7 : x = iN 98
              · rw [if_pos a7, decide_eq_true a7]; rfl
              · rw [if_neg a7, decide_eq_false a7]; rfl
theorem c_fstM (hT : TP I m T) {σ : qq_S} : CC d 319 [.int (if pos < T.length then iN (sg T pos) else m1)] σ = some (.inl (some (.int (b01 (fst7 (sg T pos))))), σ) := by
  rw [c_fst]
  congr 5
  unfold fst7
  by_cases y : pos < T.length
  · rw [if_pos y]
    have hb := sg_b hT.2.2.2 pos
    have e : ∀ c, c < 128 → decide (iN (sg T pos) = iN c) = (sg T pos == c) := fun c hc => by
      rw [Bool.eq_iff_iff, decide_eq_true_eq, beq_iff_eq, iN_eq (by omega) (by omega)]
    rw [e _ (by omega), e _ (by omega), e _ (by omega), e _ (by omega), e _ (by omega), e _ (by omega), e _ (by omega)]
  · rw [if_neg y, sg_ge (by omega)]
    decide
/-- a command behind its first letter -/
theorem c_form (hL : L_N τ m) (hT : TP I m T) (hS : ∀ p ∈ ktab, St I τ p.1 p.2) (hP : PS m I T J (pos + 1)) (hb : b + 5 ≤ 155) (hf : fst7 (sg T pos) = true) (hb0 : J (m + 9) b = iN (sg T pos)) :
    ∃ J', CC (d + 6) 318 [.ref m, .int (iN (sg T pos)), .int (iN b)] (J, τ) = some (.inl (some (.int (b01 (rdF T (frm (lk T pos 9).1) pos []).1))), (J', τ)) ∧ OC m I T J J' b (lk T pos 9).1 pos := by
  have k0 := hL.2.1
  have nrb : ∀ q : Bool, nr .boolean (b01 q) = True := fun q => by cases q; exact nr_b0; exact nr_b1
  unfold fst7 at hf
  rw [Bool.or_eq_true, Bool.or_eq_true, Bool.or_eq_true, Bool.or_eq_true, Bool.or_eq_true, Bool.or_eq_true, beq_iff_eq, beq_iff_eq, beq_iff_eq, beq_iff_eq, beq_iff_eq, beq_iff_eq, beq_iff_eq] at hf
  rcases hf with (((((h | h) | h) | h) | h) | h) | h
  · rw [h] at hb0 ⊢
    obtain ⟨J', t1, t2⟩ := c_rdP (d := d) hL hT hS hP hb h hb0
    have fin : ∀ k, rdF T (frm k) pos [] = rdF T (frm (if sg T (pos + 1) = 101 then 0 else 6)) pos [] → OC m I T J J' b k pos → ∃ J', CC (d + 6) 318 [.ref m, .int (iN 112), .int (iN b)] (J, τ) = some (.inl (some (.int (b01 (rdF T (frm k) pos []).1))), (J', τ)) ∧ OC m I T J J' b k pos := fun k e o => by
      refine ⟨J', ?_, o⟩
      rw [e, c_318, b_318_0, s_318_1_112, b_318_2]
      simp only [kd_mk, k0, gd_true, t1, bd_ret, vl_some, b_318_5, nrb]
    rw [lk_p h]
    by_cases z2 : sg T (pos + 1) = 97
    · have z1 : ¬ sg T (pos + 1) = 101 := by omega
      rw [if_pos z2]
      rw [if_neg z1] at fin t2
      exact fin 6 rfl t2
    · rw [if_neg z2]
      by_cases z1 : sg T (pos + 1) = 101
      · rw [if_pos z1] at fin t2
        exact fin 0 rfl t2
      · rw [if_neg z1] at fin t2
        obtain ⟨a1, a2⟩ := alike_p h z1 z2
        exact fin 0 (a1.trans a2.symm) (OC_alike t2 (a1.trans a2.symm) (by rw [a2]))
  · rw [h] at hb0 ⊢
    obtain ⟨J', t1, t2⟩ := c_rdH (d := d) hL hT hS hP hb h hb0
    have fin : ∀ k, rdF T (frm k) pos [] = rdF T (frm (if sg T (pos + 1) = 111 then 3 else 7)) pos [] → OC m I T J J' b k pos → ∃ J', CC (d + 6) 318 [.ref m, .int (iN 104), .int (iN b)] (J, τ) = some (.inl (some (.int (b01 (rdF T (frm k) pos []).1))), (J', τ)) ∧ OC m I T J J' b k pos := fun k e o => by
      refine ⟨J', ?_, o⟩
      rw [e, c_318, b_318_0, s_318_1_104, b_318_6]
      simp only [kd_mk, k0, gd_true, t1, bd_ret, vl_some, b_318_9, nrb]
    rw [lk_h h]
    by_cases z2 : sg T (pos + 1) = 101
    · have z1 : ¬ sg T (pos + 1) = 111 := by omega
      rw [if_pos z2]
      rw [if_neg z1] at fin t2
      exact fin 7 rfl t2
    · rw [if_neg z2]
      by_cases z1 : sg T (pos + 1) = 111
      · rw [if_pos z1] at fin t2
        exact fin 3 rfl t2
      · rw [if_neg z1] at fin t2
        obtain ⟨a1, a2⟩ := alike_h h z1 z2
        exact fin 3 (a1.trans a2.symm) (OC_alike t2 (a1.trans a2.symm) (by rw [a2]))
  · rw [h] at hb0 ⊢
    obtain ⟨J', t1, t2⟩ := c_rdW (d := d) hL hT hS hP hb h hb0
    rw [lk_w h]
    refine ⟨J', ?_, t2⟩
    rw [c_318, b_318_0, s_318_1_119, b_318_10]
    simp only [kd_mk, k0, gd_true, t1, bd_ret, vl_some, b_318_13, nrb]
  · rw [h] at hb0 ⊢
    obtain ⟨J', t1, t2⟩ := c_rdN (d := d) hL hT hS hP hb h hb0
    rw [lk_n h]
    refine ⟨J', ?_, t2⟩
    rw [c_318, b_318_0, s_318_1_110, b_318_14]
    simp only [kd_mk, k0, gd_true, t1, bd_ret, vl_some, b_318_17, nrb]
  · rw [h] at hb0 ⊢
    obtain ⟨J', t1, t2⟩ := c_rdA (d := d) hL hT hS hP hb h hb0 (iN 97)
    rw [lk_a h]
    refine ⟨J', ?_, t2⟩
    rw [c_318, b_318_0, s_318_1_97]
    exact t1
  · rw [h] at hb0 ⊢
    obtain ⟨J', t1, t2⟩ := c_rdS (d := d) hL hT hS hP hb h hb0 (iN 115)
    rw [lk_s h]
    refine ⟨J', ?_, t2⟩
    rw [c_318, b_318_0, s_318_1_115]
    exact t1
  · rw [h] at hb0 ⊢
    obtain ⟨J', t1, t2⟩ := c_rdB (d := d) hL hT hS hP hb h hb0 (iN 98)
    rw [lk_b h]
    refine ⟨J', ?_, t2⟩
    rw [c_318, b_318_0, s_318_1_d (by decide)]
    exact t1
/-- a command -/
theorem c_command (hL : L_N τ m) (hT : TP I m T) (hS : ∀ p ∈ ktab, St I τ p.1 p.2) {n : Nat} (hP : PS m I T J pos) (hn : n ≤ 10) (h19 : J m 19 = iN n) :
    ∃ J', CC (d + 7) 320 [.ref m] (J, τ) = some (.inl (some (.int (b01 (rdF T (frm (lk T pos 9).1) pos []).1))), (J', τ)) ∧ PS m I T J' (rdF T (frm (lk T pos 9).1) pos []).2.1 ∧ (∀ j, j < 5 * n → J' (m + 9) j = J (m + 9) j) ∧ ((rdF T (frm (lk T pos 9).1) pos []).1 = true → J' m 19 = iN (n + 1) ∧ rowR (J' (m + 9)) (5 * n) (lk T pos 9).1 (rdF T (frm (lk T pos 9).1) pos []).2.2) := by
  have q1 := c_peek (d := d + 6) hL hT hP
  obtain ⟨m70, k0, r0, r1, r2, r3, r4, r5, r6, r7, r8, g1, g2, g3, g4, g5, g6, g7, g8, g9⟩ := id hL
  have t2 := hT.2.1
  cases hf : fst7 (sg T pos) with
  | false =>
    have q2 := c_fstM (d := d + 6) (pos := pos) hT (σ := (J, τ))
    rw [hf, b01_f] at q2
    rw [rdF_no hf]
    refine ⟨J, ?_, hP, fun j _ => rfl, fun q => Bool.noConfusion q⟩
    rw [c_320, b_320_0]
    simp (disch := omega) only [kd_mk, k0, gd_true, rd_I_mk, h19, iN_mul, q1, bd_ret, vl_some, b_320_7, q2, b_320_10, if_true, nr_b0]
    rfl
  | true =>
    have hlt : pos < T.length := sg_ne (fun z => by rw [z] at hf; exact absurd hf (by decide))
    have q2 := c_fstM (d := d + 6) (pos := pos) hT (σ := (J, τ))
    rw [hf, b01_t] at q2
    rw [if_pos hlt] at q1 q2
    obtain ⟨p0, p1, p2, p3⟩ := hP
    have hP2 : PS m I T (up_2 (up_2 (up_2 J (m + 9) (5 * n) (iN (sg T pos))) m 18 (iN (pos + 1))) m 19 (iN (n + 1))) (pos + 1) := ⟨hlt, by rw [up_k (by omega), up_at], fun a a1 a2 => by rw [up_c a1, up_c a1, up_c a2]; exact p2 a a1 a2, fun k k1 k2 => by rw [up_k k2, up_k k1, up_c (by omega)]; exact p3 k k1 k2⟩
    have hb0 : (up_2 (up_2 (up_2 J (m + 9) (5 * n) (iN (sg T pos))) m 18 (iN (pos + 1))) m 19 (iN (n + 1))) (m + 9) (5 * n) = iN (sg T pos) := by rw [up_c (by omega), up_c (by omega), up_at]
    obtain ⟨J', t1, u1, u2, u3, u4⟩ := c_form (d := d) hL hT hS hP2 (b := 5 * n) (by omega) hf hb0
    refine ⟨J', ?_, u1, fun j hj => ?_, fun q => ⟨?_, u4 q⟩⟩
    · have e18 : up_2 J (m + 9) (5 * n) (iN (sg T pos)) m 18 = iN pos := by rw [up_c (by omega)]; exact p1
      have e19 : up_2 (up_2 J (m + 9) (5 * n) (iN (sg T pos))) m 18 (iN (pos + 1)) m 19 = iN n := by rw [up_k (by omega), up_c (by omega)]; exact h19
      have nrb : ∀ q : Bool, nr .boolean (b01 q) = True := fun q => by cases q; exact nr_b0; exact nr_b1
      rw [c_320, b_320_0]
      simp (disch := omega) only [rd_I_mk, rd_R_mk, rd_L_mk, rd_D_mk, kd_mk, wr_I_mk, cp_mk, gd_true, bd_ret, bd_thr, vl_none, vl_some, iN_add, iN_mul, iN_sub, iN_lt, iN_eq, iN_n, iN_m1, iN_pred, vp_iN, K0_le, nr_b0, nr_b1, m1_lt, lt_m1, iN_ne_m1, m1_ne_iN, not_lt_z, true_and, and_true, and_self, or_true, true_or, or_false, false_or, if_true, if_false, ↓reduceIte, eq_self, up_at, up_a, up_k, cp_c, cp_b, Nat.zero_add, Nat.add_zero, Nat.sub_zero, Nat.le_refl, Nat.add_sub_cancel, fu_at, fu_ne, iN_nz, n10_f, n01_f, ofN, qq_at_100, k110b, Nat.lt_irrefl, Nat.not_lt_zero, ne_eq, not_false_eq_true, not_true_eq_false, k0, h19, q1, b_320_7, q2, b_320_10, r8, g9, b_320_18, e18, b_320_24, e19, b_320_30, t1, b_320_34, nrb]
    · rw [u3 j hj, up_c (by omega), up_c (by omega), up_k (by omega)]
    · rw [u2, up_at]
/-- so many signs at least -/
def mn : List Nat → Nat
  | [] => 0
  | ch :: f => if ch = 91 then 0 else if ch = 93 then mn f else mn f + 1
theorem rdN_ge {T : List Nat} : ∀ n p v, p ≤ (rdN T n p v).2 := by
  intro n
  induction n with
  | zero => intro p v; exact Nat.le_refl _
  | succ n ih =>
    intro p v
    rw [rdN]
    split
    · have := ih (p + 1) (v * 10 + sg T p - 48); omega
    · exact Nat.le_refl _
theorem rdF_adv {T : List Nat} : ∀ F p a, (rdF T F p a).1 = true → p + mn F ≤ (rdF T F p a).2.1 := by
  intro F
  induction F with
  | nil => intro p a _; exact Nat.le_refl _
  | cons ch f ih =>
    intro p a
    rw [rdF, mn]
    by_cases h1 : ch = 91
    · rw [if_pos h1, if_pos h1]
      split
      · intro h; have := ih p a h; omega
      · intro _; exact Nat.le_refl _
    · rw [if_neg h1, if_neg h1]
      by_cases h2 : ch = 93
      · rw [if_pos h2, if_pos h2]; exact ih p a
      · rw [if_neg h2, if_neg h2]
        by_cases h3 : ch = 35 ∨ ch = 37
        · rw [if_pos h3]
          generalize (if ch = 35 then 1 else 3) = most
          have hge := rdN_ge (T := T) most p 0
          by_cases z : (rdN T most p 0).2 = p
          · rw [if_pos z]
            intro h
            exact Bool.noConfusion h
          · rw [if_neg z]
            intro h
            have := ih _ _ h
            omega
        · rw [if_neg h3]
          split
          · intro h; have := ih (p + 1) a h; omega
          · intro h; exact Bool.noConfusion h
theorem mn_5 : ∀ k, k < 9 → 5 ≤ mn (frm k) := by decide
/-- the rows of the commands read -/
def RW (f : Nat → Int32) (cs : List (Nat × List Nat)) : Prop := ∀ j (h : j < cs.length), rowR f (5 * j) cs[j].1 cs[j].2
theorem rowR_c {f g : Nat → Int32} {b k : Nat} {a : List Nat} (h : rowR f b k a) (hs : ∀ j, b ≤ j → j < b + 5 → g j = f j) : rowR g b k a := by
  have e0 := hs b (by omega) (by omega)
  have e1 := hs (b + 1) (by omega) (by omega)
  have e2 := hs (b + 2) (by omega) (by omega)
  have e3 := hs (b + 3) (by omega) (by omega)
  have e4 := hs (b + 4) (by omega) (by omega)
  unfold rowR at *
  rw [e0, e1, e2, e3, e4]
  exact h
theorem RW_add {f g : Nat → Int32} {cs : List (Nat × List Nat)} {k : Nat} {a : List Nat} (h : RW f cs) (hs : ∀ j, j < 5 * cs.length → g j = f j) (hr : rowR g (5 * cs.length) k a) : RW g (cs ++ [(k, a)]) := by
  intro j hj
  rw [List.length_append] at hj
  have hj : j < cs.length + 1 := hj
  by_cases y : j < cs.length
  · rw [List.getElem_append_left y]
    exact rowR_c (h j y) (fun i i1 i2 => hs i (by omega))
  · have y : j = cs.length := by omega
    subst y
    have e : (cs ++ [(k, a)])[cs.length]'(by simp) = (k, a) := by rw [List.getElem_append_right (Nat.le_refl _)]; simp
    rw [e]
    exact hr
theorem c_script (hL : L_N τ m) (hT : TP I m T) (hS : ∀ p ∈ ktab, St I τ p.1 p.2) : ∀ n pos (cs : List (Nat × List Nat)) (K : qq_I), n + cs.length = 11 → 6 * cs.length ≤ pos → PS m I T K pos → K m 19 = iN cs.length → RW (K (m + 9)) cs →
    ∃ K1 K', CC (d + 7) 320 [.ref m] (K, τ) = some (.inl (some (.int (b01 (rdF T (frm (lk T pos 9).1) pos []).1))), (K1, τ)) ∧ RR (d + 8) 321 9 [some (.ref m), some (.int (b01 (rdF T (frm (lk T pos 9).1) pos []).1))] [] (K1, τ) = some (.inl (some (.int (b01 (rdS T n pos cs).1))), (K', τ)) ∧ PS m I T K' (rdS T n pos cs).2.1 ∧ ((rdS T n pos cs).1 = true → K' m 19 = iN (rdS T n pos cs).2.2.length ∧ RW (K' (m + 9)) (rdS T n pos cs).2.2 ∧ (rdS T n pos cs).2.2.length ≤ 11) := by
  have k0 := hL.2.1
  have t1 := hT.1
  have t2 := hT.2.1
  intro n
  induction n with
  | zero =>
    intro pos cs K h1 h2 hP
    have := hP.1
    omega
  | succ n ih =>
    intro pos cs K h1 h2 hP h19 hrw
    obtain ⟨K1, u1, u2, u3, u4⟩ := c_command (d := d) hL hT hS hP (n := cs.length) (by omega) h19
    have hadv := rdF_adv (T := T) (frm (lk T pos 9).1) pos []
    have hmn := mn_5 (lk T pos 9).1 lk_9
    rw [rdS]
    refine ⟨K1, ?_⟩
    generalize hr : rdF T (frm (lk T pos 9).1) pos [] = r at *
    obtain ⟨r1, r2, r3⟩ := r
    dsimp only at *
    cases r1 with
    | false =>
      rw [if_pos rfl]
      refine ⟨K1, u1, ?_, u2, fun q => Bool.noConfusion q⟩
      rw [b01_f, b_321_9]
      simp (disch := omega) only [rd_I_mk, rd_R_mk, rd_L_mk, rd_D_mk, kd_mk, wr_I_mk, cp_mk, gd_true, bd_ret, bd_thr, vl_none, vl_some, iN_add, iN_mul, iN_sub, iN_lt, iN_eq, iN_n, iN_m1, iN_pred, vp_iN, K0_le, nr_b0, nr_b1, m1_lt, lt_m1, iN_ne_m1, m1_ne_iN, not_lt_z, true_and, and_true, and_self, or_true, true_or, or_false, false_or, if_true, if_false, ↓reduceIte, eq_self, up_at, up_a, up_k, cp_c, cp_b, Nat.zero_add, Nat.add_zero, Nat.sub_zero, Nat.le_refl, Nat.add_sub_cancel, fu_at, fu_ne, iN_nz, n10_f, n01_f, ofN, qq_at_100, k110b, Nat.lt_irrefl, Nat.not_lt_zero, ne_eq, not_false_eq_true, not_true_eq_false, b_321_19, b_321_28, b_321_29, nr_b0]
    | true =>
      have h5 := hadv rfl
      obtain ⟨v1, v2⟩ := u4 rfl
      rw [if_neg (by decide)]
      obtain ⟨K2, w1, w2, w3, w4⟩ := c_takes (d := d + 6) hL hT u2 (ch := 59) (by omega) (by omega)
      have hcs := RW_add hrw u3 v2
      have hlen : (cs ++ [((lk T pos 9).1, r3)]).length = cs.length + 1 := by rw [List.length_append]; rfl
      have hp2 := u2.1
      by_cases z1 : r2 = T.length
      · have z2 : ¬ sg T r2 = 59 := by rw [z1, sg_ge (Nat.le_refl _)]; omega
        rw [if_pos z1]
        rw [decide_eq_false z2, b01_f] at w1
        rw [if_neg z2] at w2
        have e17 : K2 m 17 = iN T.length := by rw [w2.2.2.2 17 (by omega) (by omega)]; exact t1
        have e18 := w2.2.1
        rw [z1] at e18
        refine ⟨K2, u1, ?_, w2, fun _ => ⟨by rw [w4, v1, hlen], by rw [w3]; exact hcs, by rw [hlen]; omega⟩⟩
        rw [b01_t, b_321_9]
        simp (disch := omega) only [rd_I_mk, rd_R_mk, rd_L_mk, rd_D_mk, kd_mk, wr_I_mk, cp_mk, gd_true, bd_ret, bd_thr, vl_none, vl_some, iN_add, iN_mul, iN_sub, iN_lt, iN_eq, iN_n, iN_m1, iN_pred, vp_iN, K0_le, nr_b0, nr_b1, m1_lt, lt_m1, iN_ne_m1, m1_ne_iN, not_lt_z, true_and, and_true, and_self, or_true, true_or, or_false, false_or, if_true, if_false, ↓reduceIte, eq_self, up_at, up_a, up_k, cp_c, cp_b, Nat.zero_add, Nat.add_zero, Nat.sub_zero, Nat.le_refl, Nat.add_sub_cancel, fu_at, fu_ne, iN_nz, n10_f, n01_f, ofN, qq_at_100, k110b, Nat.lt_irrefl, Nat.not_lt_zero, ne_eq, not_false_eq_true, not_true_eq_false, k0, w1, b_321_14, b_321_19, e17, e18, b_321_29, nr_b1]
      · rw [if_neg z1]
        by_cases z2 : sg T r2 = 59
        · rw [if_pos z2]
          rw [decide_eq_true z2, b01_t] at w1
          rw [if_pos z2] at w2
          obtain ⟨K3, K', x1, x2, x3, x4⟩ := ih (r2 + 1) (cs ++ [((lk T pos 9).1, r3)]) K2 (by omega) (by omega) w2 (by rw [w4, v1, hlen]) (by rw [w3]; exact hcs)
          refine ⟨K', u1, ?_, x3, x4⟩
          rw [b01_t, b_321_9]
          simp (disch := omega) only [rd_I_mk, rd_R_mk, rd_L_mk, rd_D_mk, kd_mk, wr_I_mk, cp_mk, gd_true, bd_ret, bd_thr, vl_none, vl_some, iN_add, iN_mul, iN_sub, iN_lt, iN_eq, iN_n, iN_m1, iN_pred, vp_iN, K0_le, nr_b0, nr_b1, m1_lt, lt_m1, iN_ne_m1, m1_ne_iN, not_lt_z, true_and, and_true, and_self, or_true, true_or, or_false, false_or, if_true, if_false, ↓reduceIte, eq_self, up_at, up_a, up_k, cp_c, cp_b, Nat.zero_add, Nat.add_zero, Nat.sub_zero, Nat.le_refl, Nat.add_sub_cancel, fu_at, fu_ne, iN_nz, n10_f, n01_f, ofN, qq_at_100, k110b, Nat.lt_irrefl, Nat.not_lt_zero, ne_eq, not_false_eq_true, not_true_eq_false, k0, w1, b_321_14, x1, b_321_17]
          exact x2
        · rw [if_neg z2]
          rw [decide_eq_false z2, b01_f] at w1
          rw [if_neg z2] at w2
          have e17 : K2 m 17 = iN T.length := by rw [w2.2.2.2 17 (by omega) (by omega)]; exact t1
          have e18 := w2.2.1
          have ne : (iN r2 = iN T.length) = False := (iN_eq (by omega) (by omega)).trans (eq_false z1)
          refine ⟨K2, u1, ?_, w2, fun q => Bool.noConfusion q⟩
          rw [b01_t, b_321_9]
          simp (disch := omega) only [show (iN 1 = iN 0) = False from (iN_eq (by omega) (by omega)).trans (eq_false (by omega)), if_false, kd_mk, k0, gd_true, w1, bd_ret, vl_some, b_321_14, if_true, b_321_19, rd_I_mk, e17, e18, ne, b_321_28, b_321_29, nr_b0, and_self]
          rfl
theorem c_parse (hL : L_N τ m) (hT : TP I m T) (hS : ∀ p ∈ ktab, St I τ p.1 p.2) : ∃ J, CC (d + 8) 321 [.ref m] (I, τ) = some (.inl (some (.int (b01 (rdS T 11 0 []).1))), (J, τ)) ∧ PS m I T J (rdS T 11 0 []).2.1 ∧ ((rdS T 11 0 []).1 = true → J m 19 = iN (rdS T 11 0 []).2.2.length ∧ RW (J (m + 9)) (rdS T 11 0 []).2.2 ∧ (rdS T 11 0 []).2.2.length ≤ 11) := by
  have k0 := hL.2.1
  have m70 := hL.1
  obtain ⟨K1, J, x1, x2, x3, x4⟩ := c_script (d := d) hL hT hS 11 0 [] (up_2 (up_2 I m 18 (iN 0)) m 19 (iN 0)) rfl (Nat.zero_le _) ⟨Nat.zero_le _, by rw [up_k (by omega), up_at], fun a a1 a2 => by rw [up_c a1, up_c a1], fun k k1 k2 => by rw [up_k k2, up_k k1]⟩ up_at (fun j hj => absurd hj (Nat.not_lt_zero _))
  refine ⟨J, ?_, x3, x4⟩
  rw [c_321, b_321_0]
  simp (disch := omega) only [rd_I_mk, rd_R_mk, rd_L_mk, rd_D_mk, kd_mk, wr_I_mk, cp_mk, gd_true, bd_ret, bd_thr, vl_none, vl_some, iN_add, iN_mul, iN_sub, iN_lt, iN_eq, iN_n, iN_m1, iN_pred, vp_iN, K0_le, nr_b0, nr_b1, m1_lt, lt_m1, iN_ne_m1, m1_ne_iN, not_lt_z, true_and, and_true, and_self, or_true, true_or, or_false, false_or, if_true, if_false, ↓reduceIte, eq_self, up_at, up_a, up_k, cp_c, cp_b, Nat.zero_add, Nat.add_zero, Nat.sub_zero, Nat.le_refl, Nat.add_sub_cancel, fu_at, fu_ne, iN_nz, n10_f, n01_f, ofN, qq_at_100, k110b, Nat.lt_irrefl, Nat.not_lt_zero, ne_eq, not_false_eq_true, not_true_eq_false, k0, b_321_3, b_321_6, x1, b_321_8]
  exact x2
end MRS
