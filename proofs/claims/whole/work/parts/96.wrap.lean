/-! THE LAW: its wrappers of the calls -/
theorem l01 : (iN 0).toInt64 = Int64.ofNat 0 ∧ (iN 1).toInt64 = Int64.ofNat 1 := by decide
section WW
variable {d : Nat} {I I' : qq_I} {τ τ' : qq_R} {c o : Nat} {q : qR}
theorem w_331 (hp : CC d 130 [.ref c] (I, τ) = some (oO q, (I', τ'))) (hq : qin [2] q) (hc : tK τ c = (12, 0)) (ho : tK τ' o = (105, 1)) (h70 : 70 ≤ o) : CC (d + 1) 331 [.ref c, .ref o] (I, τ) = some (.inl (some (.int (iN (qc [2] q)))), (I', lwq τ' o q)) := by
  rw [c_331, b_331_0]
  cases q with
  | inl v =>
    have hp : CC d 130 [.ref c] (I, τ) = some (.inl (some (.int v)), (I', τ')) := hp
    simp (disch := omega) only [kd_mk, hc, gd_true, hp, bdh_ret, vl_some, b_331_4, b_331_6, b_331_8, ho, vp_iN, K0_le h70, and_self, wL_mk, iN_n]
    rfl
  | inr x =>
    have hp : CC d 130 [.ref c] (I, τ) = some (.inr x, (I', τ')) := hp
    have hq : x ∈ [2] := hq
    rw [List.mem_singleton] at hq
    subst hq
    simp only [kd_mk, hc, gd_true, hp, bdh_thr, h_331_3_2, b_331_4, b_331_6, b_331_8]
    rfl
theorem w_332 (x1 x2 : Int32) (hp : CC d 131 [.ref c, .int x1, .int x2] (I, τ) = some (oO q, (I', τ'))) (hq : qin [0] q) (hc : tK τ c = (12, 0)) (ho : tK τ' o = (105, 1)) (h70 : 70 ≤ o) : CC (d + 1) 332 [.ref c, .int x1, .int x2, .ref o] (I, τ) = some (.inl (some (.int (iN (qc [0] q)))), (I', lwq τ' o q)) := by
  rw [c_332, b_332_0]
  cases q with
  | inl v =>
    have hp : CC d 131 [.ref c, .int x1, .int x2] (I, τ) = some (.inl (some (.int v)), (I', τ')) := hp
    simp (disch := omega) only [kd_mk, hc, gd_true, hp, bdh_ret, vl_some, b_332_6, b_332_8, b_332_10, ho, vp_iN, K0_le h70, and_self, wL_mk, iN_n]
    rfl
  | inr x =>
    have hp : CC d 131 [.ref c, .int x1, .int x2] (I, τ) = some (.inr x, (I', τ')) := hp
    have hq : x ∈ [0] := hq
    rw [List.mem_singleton] at hq
    subst hq
    simp only [kd_mk, hc, gd_true, hp, bdh_thr, h_332_5_0, b_332_6, b_332_8, b_332_10]
    rfl
theorem w_333 (x1 x2 : Int32) (hp : CC d 132 [.ref c, .int x1, .int x2] (I, τ) = some (oO q, (I', τ'))) (hq : qin [0, 1, 2] q) (hc : tK τ c = (12, 0)) (ho : tK τ' o = (105, 1)) (h70 : 70 ≤ o) : CC (d + 1) 333 [.ref c, .int x1, .int x2, .ref o] (I, τ) = some (.inl (some (.int (iN (qc [0, 1, 2] q)))), (I', lwq τ' o q)) := by
  rw [c_333, b_333_0]
  cases q with
  | inl v =>
    have hp : CC d 132 [.ref c, .int x1, .int x2] (I, τ) = some (.inl (some (.int v)), (I', τ')) := hp
    simp (disch := omega) only [kd_mk, hc, gd_true, hp, bdh_ret, vl_some, b_333_6, b_333_8, b_333_10, b_333_13, b_333_16, ho, vp_iN, K0_le h70, and_self, wL_mk, iN_n]
    rfl
  | inr x =>
    have hp : CC d 132 [.ref c, .int x1, .int x2] (I, τ) = some (.inr x, (I', τ')) := hp
    have hq : x ∈ [0, 1, 2] := hq
    simp only [List.mem_cons, List.not_mem_nil, or_false] at hq
    rcases hq with rfl | rfl | rfl
    · simp only [kd_mk, hc, gd_true, hp, bdh_thr, h_333_5_0, b_333_6, b_333_8, b_333_10, b_333_13, b_333_16]
      rfl
    · simp only [kd_mk, hc, gd_true, hp, bdh_thr, h_333_5_1, b_333_6, b_333_8, b_333_10, b_333_13, b_333_16]
      rfl
    · simp only [kd_mk, hc, gd_true, hp, bdh_thr, h_333_5_2, b_333_6, b_333_8, b_333_10, b_333_13, b_333_16]
      rfl
theorem w_334 (x1 x2 : Int32) (hp : CC d 133 [.ref c, .int x1, .int x2] (I, τ) = some (oO q, (I', τ'))) (hq : qin [0] q) (hc : tK τ c = (12, 0)) (ho : tK τ' o = (105, 1)) (h70 : 70 ≤ o) : CC (d + 1) 334 [.ref c, .int x1, .int x2, .ref o] (I, τ) = some (.inl (some (.int (iN (qc [0] q)))), (I', lwq τ' o q)) := by
  rw [c_334, b_334_0]
  cases q with
  | inl v =>
    have hp : CC d 133 [.ref c, .int x1, .int x2] (I, τ) = some (.inl (some (.int v)), (I', τ')) := hp
    simp (disch := omega) only [kd_mk, hc, gd_true, hp, bdh_ret, vl_some, b_334_6, b_334_8, b_334_10, ho, vp_iN, K0_le h70, and_self, wL_mk, iN_n]
    rfl
  | inr x =>
    have hp : CC d 133 [.ref c, .int x1, .int x2] (I, τ) = some (.inr x, (I', τ')) := hp
    have hq : x ∈ [0] := hq
    rw [List.mem_singleton] at hq
    subst hq
    simp only [kd_mk, hc, gd_true, hp, bdh_thr, h_334_5_0, b_334_6, b_334_8, b_334_10]
    rfl
theorem w_335 (x1 x2 x3 : Int32) (hp : CC d 134 [.ref c, .int x1, .int x2, .int x3] (I, τ) = some (oO q, (I', τ'))) (hq : qin [0, 1, 2] q) (hc : tK τ c = (12, 0)) (ho : tK τ' o = (105, 1)) (h70 : 70 ≤ o) : CC (d + 1) 335 [.ref c, .int x1, .int x2, .int x3, .ref o] (I, τ) = some (.inl (some (.int (iN (qc [0, 1, 2] q)))), (I', lwq τ' o q)) := by
  rw [c_335, b_335_0]
  cases q with
  | inl v =>
    have hp : CC d 134 [.ref c, .int x1, .int x2, .int x3] (I, τ) = some (.inl (some (.int v)), (I', τ')) := hp
    simp (disch := omega) only [kd_mk, hc, gd_true, hp, bdh_ret, vl_some, b_335_7, b_335_9, b_335_11, b_335_14, b_335_17, ho, vp_iN, K0_le h70, and_self, wL_mk, iN_n]
    rfl
  | inr x =>
    have hp : CC d 134 [.ref c, .int x1, .int x2, .int x3] (I, τ) = some (.inr x, (I', τ')) := hp
    have hq : x ∈ [0, 1, 2] := hq
    simp only [List.mem_cons, List.not_mem_nil, or_false] at hq
    rcases hq with rfl | rfl | rfl
    · simp only [kd_mk, hc, gd_true, hp, bdh_thr, h_335_6_0, b_335_7, b_335_9, b_335_11, b_335_14, b_335_17]
      rfl
    · simp only [kd_mk, hc, gd_true, hp, bdh_thr, h_335_6_1, b_335_7, b_335_9, b_335_11, b_335_14, b_335_17]
      rfl
    · simp only [kd_mk, hc, gd_true, hp, bdh_thr, h_335_6_2, b_335_7, b_335_9, b_335_11, b_335_14, b_335_17]
      rfl
theorem w_336 (x1 x2 x3 x4 : Int32) (hp : CC d 135 [.ref c, .int x1, .int x2, .int x3, .int x4] (I, τ) = some (oO q, (I', τ'))) (hq : qin [0, 1, 3, 2] q) (hc : tK τ c = (12, 0)) (ho : tK τ' o = (105, 1)) (h70 : 70 ≤ o) : CC (d + 1) 336 [.ref c, .int x1, .int x2, .int x3, .int x4, .ref o] (I, τ) = some (.inl (some (.int (iN (qc [0, 1, 3, 2] q)))), (I', lwq τ' o q)) := by
  rw [c_336, b_336_0]
  cases q with
  | inl v =>
    have hp : CC d 135 [.ref c, .int x1, .int x2, .int x3, .int x4] (I, τ) = some (.inl (some (.int v)), (I', τ')) := hp
    simp (disch := omega) only [kd_mk, hc, gd_true, hp, bdh_ret, vl_some, b_336_8, b_336_10, b_336_12, b_336_15, b_336_18, b_336_21, ho, vp_iN, K0_le h70, and_self, wL_mk, iN_n]
    rfl
  | inr x =>
    have hp : CC d 135 [.ref c, .int x1, .int x2, .int x3, .int x4] (I, τ) = some (.inr x, (I', τ')) := hp
    have hq : x ∈ [0, 1, 3, 2] := hq
    simp only [List.mem_cons, List.not_mem_nil, or_false] at hq
    rcases hq with rfl | rfl | rfl | rfl
    · simp only [kd_mk, hc, gd_true, hp, bdh_thr, h_336_7_0, b_336_8, b_336_10, b_336_12, b_336_15, b_336_18, b_336_21]
      rfl
    · simp only [kd_mk, hc, gd_true, hp, bdh_thr, h_336_7_1, b_336_8, b_336_10, b_336_12, b_336_15, b_336_18, b_336_21]
      rfl
    · simp only [kd_mk, hc, gd_true, hp, bdh_thr, h_336_7_3, b_336_8, b_336_10, b_336_12, b_336_15, b_336_18, b_336_21]
      rfl
    · simp only [kd_mk, hc, gd_true, hp, bdh_thr, h_336_7_2, b_336_8, b_336_10, b_336_12, b_336_15, b_336_18, b_336_21]
      rfl
theorem w_337 (x1 x2 : Int32) (hp : CC d 136 [.ref c, .int x1, .int x2] (I, τ) = some (oO q, (I', τ'))) (hq : qin [1, 2] q) (hc : tK τ c = (12, 0)) (ho : tK τ' o = (105, 1)) (h70 : 70 ≤ o) : CC (d + 1) 337 [.ref c, .int x1, .int x2, .ref o] (I, τ) = some (.inl (some (.int (iN (qc [1, 2] q)))), (I', lwq τ' o q)) := by
  rw [c_337, b_337_0]
  cases q with
  | inl v =>
    have hp : CC d 136 [.ref c, .int x1, .int x2] (I, τ) = some (.inl (some (.int v)), (I', τ')) := hp
    simp (disch := omega) only [kd_mk, hc, gd_true, hp, bdh_ret, vl_some, b_337_6, b_337_8, b_337_10, b_337_13, ho, vp_iN, K0_le h70, and_self, wL_mk, iN_n]
    rfl
  | inr x =>
    have hp : CC d 136 [.ref c, .int x1, .int x2] (I, τ) = some (.inr x, (I', τ')) := hp
    have hq : x ∈ [1, 2] := hq
    simp only [List.mem_cons, List.not_mem_nil, or_false] at hq
    rcases hq with rfl | rfl
    · simp only [kd_mk, hc, gd_true, hp, bdh_thr, h_337_5_1, b_337_6, b_337_8, b_337_10, b_337_13]
      rfl
    · simp only [kd_mk, hc, gd_true, hp, bdh_thr, h_337_5_2, b_337_6, b_337_8, b_337_10, b_337_13]
      rfl
theorem w_338 (x1 : Int32) (hp : CC d 137 [.ref c, .int x1] (I, τ) = some (oO q, (I', τ'))) (hq : qin [3, 2, 4] q) (hc : tK τ c = (12, 0)) (ho : tK τ' o = (105, 1)) (h70 : 70 ≤ o) : CC (d + 1) 338 [.ref c, .int x1, .ref o] (I, τ) = some (.inl (some (.int (iN (qc [3, 2, 4] q)))), (I', lwq τ' o q)) := by
  rw [c_338, b_338_0]
  cases q with
  | inl v =>
    have hp : CC d 137 [.ref c, .int x1] (I, τ) = some (.inl (some (.int v)), (I', τ')) := hp
    simp (disch := omega) only [kd_mk, hc, gd_true, hp, bdh_ret, vl_some, b_338_5, b_338_7, b_338_9, b_338_12, b_338_15, ho, vp_iN, K0_le h70, and_self, wL_mk, iN_n]
    rfl
  | inr x =>
    have hp : CC d 137 [.ref c, .int x1] (I, τ) = some (.inr x, (I', τ')) := hp
    have hq : x ∈ [3, 2, 4] := hq
    simp only [List.mem_cons, List.not_mem_nil, or_false] at hq
    rcases hq with rfl | rfl | rfl
    · simp only [kd_mk, hc, gd_true, hp, bdh_thr, h_338_4_3, b_338_5, b_338_7, b_338_9, b_338_12, b_338_15]
      rfl
    · simp only [kd_mk, hc, gd_true, hp, bdh_thr, h_338_4_2, b_338_5, b_338_7, b_338_9, b_338_12, b_338_15]
      rfl
    · simp only [kd_mk, hc, gd_true, hp, bdh_thr, h_338_4_4, b_338_5, b_338_7, b_338_9, b_338_12, b_338_15]
      rfl
theorem w_339 (x1 : Int32) (hp : CC d 138 [.ref c, .int x1] (I, τ) = some (oO q, (I', τ'))) (hq : qin [3, 2] q) (hc : tK τ c = (12, 0)) (ho : tK τ' o = (105, 1)) (h70 : 70 ≤ o) : CC (d + 1) 339 [.ref c, .int x1, .ref o] (I, τ) = some (.inl (some (.int (iN (qc [3, 2] q)))), (I', lwq τ' o q)) := by
  rw [c_339, b_339_0]
  cases q with
  | inl v =>
    have hp : CC d 138 [.ref c, .int x1] (I, τ) = some (.inl (some (.int v)), (I', τ')) := hp
    simp (disch := omega) only [kd_mk, hc, gd_true, hp, bdh_ret, vl_some, b_339_5, b_339_7, b_339_9, b_339_12, ho, vp_iN, K0_le h70, and_self, wL_mk, iN_n]
    rfl
  | inr x =>
    have hp : CC d 138 [.ref c, .int x1] (I, τ) = some (.inr x, (I', τ')) := hp
    have hq : x ∈ [3, 2] := hq
    simp only [List.mem_cons, List.not_mem_nil, or_false] at hq
    rcases hq with rfl | rfl
    · simp only [kd_mk, hc, gd_true, hp, bdh_thr, h_339_4_3, b_339_5, b_339_7, b_339_9, b_339_12]
      rfl
    · simp only [kd_mk, hc, gd_true, hp, bdh_thr, h_339_4_2, b_339_5, b_339_7, b_339_9, b_339_12]
      rfl
theorem w_340 (x1 : Int32) (hp : CC d 139 [.ref c, .int x1] (I, τ) = some (oO q, (I', τ'))) (hq : qin [1] q) (hc : tK τ c = (12, 0)) (ho : tK τ' o = (105, 1)) (h70 : 70 ≤ o) : CC (d + 1) 340 [.ref c, .int x1, .ref o] (I, τ) = some (.inl (some (.int (iN (qc [1] q)))), (I', lwq τ' o q)) := by
  rw [c_340, b_340_0]
  cases q with
  | inl v =>
    have hp : CC d 139 [.ref c, .int x1] (I, τ) = some (.inl (some (.int v)), (I', τ')) := hp
    simp (disch := omega) only [kd_mk, hc, gd_true, hp, bdh_ret, vl_some, b_340_5, b_340_7, b_340_9, ho, vp_iN, K0_le h70, and_self, wL_mk, iN_n]
    rfl
  | inr x =>
    have hp : CC d 139 [.ref c, .int x1] (I, τ) = some (.inr x, (I', τ')) := hp
    have hq : x ∈ [1] := hq
    rw [List.mem_singleton] at hq
    subst hq
    simp only [kd_mk, hc, gd_true, hp, bdh_thr, h_340_4_1, b_340_5, b_340_7, b_340_9]
    rfl
theorem w_341 (x1 : Int32) (hp : CC d 141 [.ref c, .int x1] (I, τ) = some (oO q, (I', τ'))) (hq : qin [0] q) (hc : tK τ c = (12, 0)) (ho : tK τ' o = (105, 1)) (h70 : 70 ≤ o) : CC (d + 1) 341 [.ref c, .int x1, .ref o] (I, τ) = some (.inl (some (.int (iN (qc [0] q)))), (I', lwq τ' o q)) := by
  rw [c_341, b_341_0]
  cases q with
  | inl v =>
    have hp : CC d 141 [.ref c, .int x1] (I, τ) = some (.inl (some (.int v)), (I', τ')) := hp
    simp (disch := omega) only [kd_mk, hc, gd_true, hp, bdh_ret, vl_some, b_341_5, b_341_7, b_341_9, ho, vp_iN, K0_le h70, and_self, wL_mk, iN_n]
    rfl
  | inr x =>
    have hp : CC d 141 [.ref c, .int x1] (I, τ) = some (.inr x, (I', τ')) := hp
    have hq : x ∈ [0] := hq
    rw [List.mem_singleton] at hq
    subst hq
    simp only [kd_mk, hc, gd_true, hp, bdh_thr, h_341_4_0, b_341_5, b_341_7, b_341_9]
    rfl
theorem w_342 (x1 : Int32) (hp : CC d 142 [.ref c, .int x1] (I, τ) = some (oO q, (I', τ'))) (hq : qin [0] q) (hv : ∀ v, q = .inl v → v = iN 0 ∨ v = iN 1) (hc : tK τ c = (12, 0)) (ho : tK τ' o = (105, 1)) (h70 : 70 ≤ o) : CC (d + 1) 342 [.ref c, .int x1, .ref o] (I, τ) = some (.inl (some (.int (iN (qc [0] q)))), (I', lwq τ' o q)) := by
  rw [c_342, b_342_0]
  cases q with
  | inl v =>
    have hp : CC d 142 [.ref c, .int x1] (I, τ) = some (.inl (some (.int v)), (I', τ')) := hp
    rcases hv v rfl with rfl | rfl
    · simp (disch := omega) only [kd_mk, hc, gd_true, hp, bdh_ret, vl_some, b_342_5, b_342_9, b_342_10, b_342_12, iN_eq, if_true, if_false, n10_f, eq_self, ho, vp_iN, K0_le h70, and_self, wL_mk, iN_n]
      show _ = some (Sum.inl (some (Value.int (iN 0))), (I', uL9 τ' o 0 (iN 0).toInt64))
      rw [l01.1]
    · simp (disch := omega) only [kd_mk, hc, gd_true, hp, bdh_ret, vl_some, b_342_5, b_342_9, b_342_10, b_342_12, iN_eq, if_true, if_false, n10_f, eq_self, ho, vp_iN, K0_le h70, and_self, wL_mk, iN_n]
      show _ = some (Sum.inl (some (Value.int (iN 0))), (I', uL9 τ' o 0 (iN 1).toInt64))
      rw [l01.2]
  | inr x =>
    have hp : CC d 142 [.ref c, .int x1] (I, τ) = some (.inr x, (I', τ')) := hp
    have hq : x ∈ [0] := hq
    rw [List.mem_singleton] at hq
    subst hq
    simp only [kd_mk, hc, gd_true, hp, bdh_thr, h_342_4_0, b_342_5, b_342_9, b_342_10, b_342_12]
    rfl
theorem w_343 (x1 : Int32) (hp : CC d 143 [.ref c, .int x1] (I, τ) = some (oO q, (I', τ'))) (hq : qin [0, 3] q) (hc : tK τ c = (12, 0)) (ho : tK τ' o = (105, 1)) (h70 : 70 ≤ o) : CC (d + 1) 343 [.ref c, .int x1, .ref o] (I, τ) = some (.inl (some (.int (iN (qc [0, 3] q)))), (I', lwq τ' o q)) := by
  rw [c_343, b_343_0]
  cases q with
  | inl v =>
    have hp : CC d 143 [.ref c, .int x1] (I, τ) = some (.inl (some (.int v)), (I', τ')) := hp
    simp (disch := omega) only [kd_mk, hc, gd_true, hp, bdh_ret, vl_some, b_343_5, b_343_7, b_343_9, b_343_12, ho, vp_iN, K0_le h70, and_self, wL_mk, iN_n]
    rfl
  | inr x =>
    have hp : CC d 143 [.ref c, .int x1] (I, τ) = some (.inr x, (I', τ')) := hp
    have hq : x ∈ [0, 3] := hq
    simp only [List.mem_cons, List.not_mem_nil, or_false] at hq
    rcases hq with rfl | rfl
    · simp only [kd_mk, hc, gd_true, hp, bdh_thr, h_343_4_0, b_343_5, b_343_7, b_343_9, b_343_12]
      rfl
    · simp only [kd_mk, hc, gd_true, hp, bdh_thr, h_343_4_3, b_343_5, b_343_7, b_343_9, b_343_12]
      rfl
theorem w_344 (x1 x2 : Int32) (hp : CC d 144 [.ref c, .int x1, .int x2] (I, τ) = some (oO q, (I', τ'))) (hq : qin [0, 1] q) (hc : tK τ c = (12, 0)) (ho : tK τ' o = (105, 1)) (h70 : 70 ≤ o) : CC (d + 1) 344 [.ref c, .int x1, .int x2, .ref o] (I, τ) = some (.inl (some (.int (iN (qc [0, 1] q)))), (I', lwq τ' o q)) := by
  rw [c_344, b_344_0]
  cases q with
  | inl v =>
    have hp : CC d 144 [.ref c, .int x1, .int x2] (I, τ) = some (.inl (some (.int v)), (I', τ')) := hp
    simp (disch := omega) only [kd_mk, hc, gd_true, hp, bdh_ret, vl_some, b_344_6, b_344_8, b_344_10, b_344_13, ho, vp_iN, K0_le h70, and_self, wL_mk, iN_n]
    rfl
  | inr x =>
    have hp : CC d 144 [.ref c, .int x1, .int x2] (I, τ) = some (.inr x, (I', τ')) := hp
    have hq : x ∈ [0, 1] := hq
    simp only [List.mem_cons, List.not_mem_nil, or_false] at hq
    rcases hq with rfl | rfl
    · simp only [kd_mk, hc, gd_true, hp, bdh_thr, h_344_5_0, b_344_6, b_344_8, b_344_10, b_344_13]
      rfl
    · simp only [kd_mk, hc, gd_true, hp, bdh_thr, h_344_5_1, b_344_6, b_344_8, b_344_10, b_344_13]
      rfl
theorem w_345 (x1 x2 : Int32) (hp : CC d 145 [.ref c, .int x1, .int x2] (I, τ) = some (oO q, (I', τ'))) (hq : qin [0, 1] q) (hc : tK τ c = (12, 0)) (ho : tK τ' o = (105, 1)) (h70 : 70 ≤ o) : CC (d + 1) 345 [.ref c, .int x1, .int x2, .ref o] (I, τ) = some (.inl (some (.int (iN (qc [0, 1] q)))), (I', lwq τ' o q)) := by
  rw [c_345, b_345_0]
  cases q with
  | inl v =>
    have hp : CC d 145 [.ref c, .int x1, .int x2] (I, τ) = some (.inl (some (.int v)), (I', τ')) := hp
    simp (disch := omega) only [kd_mk, hc, gd_true, hp, bdh_ret, vl_some, b_345_6, b_345_8, b_345_10, b_345_13, ho, vp_iN, K0_le h70, and_self, wL_mk, iN_n]
    rfl
  | inr x =>
    have hp : CC d 145 [.ref c, .int x1, .int x2] (I, τ) = some (.inr x, (I', τ')) := hp
    have hq : x ∈ [0, 1] := hq
    simp only [List.mem_cons, List.not_mem_nil, or_false] at hq
    rcases hq with rfl | rfl
    · simp only [kd_mk, hc, gd_true, hp, bdh_thr, h_345_5_0, b_345_6, b_345_8, b_345_10, b_345_13]
      rfl
    · simp only [kd_mk, hc, gd_true, hp, bdh_thr, h_345_5_1, b_345_6, b_345_8, b_345_10, b_345_13]
      rfl
theorem w_346 (x1 : Int32) (hp : CC d 146 [.ref c, .int x1] (I, τ) = some (oO q, (I', τ'))) (hq : qin [0] q) (hc : tK τ c = (12, 0)) (ho : tK τ' o = (105, 1)) (h70 : 70 ≤ o) : CC (d + 1) 346 [.ref c, .int x1, .ref o] (I, τ) = some (.inl (some (.int (iN (qc [0] q)))), (I', lwq τ' o q)) := by
  rw [c_346, b_346_0]
  cases q with
  | inl v =>
    have hp : CC d 146 [.ref c, .int x1] (I, τ) = some (.inl (some (.int v)), (I', τ')) := hp
    simp (disch := omega) only [kd_mk, hc, gd_true, hp, bdh_ret, vl_some, b_346_5, b_346_7, b_346_9, ho, vp_iN, K0_le h70, and_self, wL_mk, iN_n]
    rfl
  | inr x =>
    have hp : CC d 146 [.ref c, .int x1] (I, τ) = some (.inr x, (I', τ')) := hp
    have hq : x ∈ [0] := hq
    rw [List.mem_singleton] at hq
    subst hq
    simp only [kd_mk, hc, gd_true, hp, bdh_thr, h_346_4_0, b_346_5, b_346_7, b_346_9]
    rfl
theorem w_347 (x1 : Int32) (hp : CC d 148 [.ref c, .int x1] (I, τ) = some (oO q, (I', τ'))) (hq : qin [0] q) (hc : tK τ c = (12, 0)) (ho : tK τ' o = (105, 1)) (h70 : 70 ≤ o) : CC (d + 1) 347 [.ref c, .int x1, .ref o] (I, τ) = some (.inl (some (.int (iN (qc [0] q)))), (I', lwq τ' o q)) := by
  rw [c_347, b_347_0]
  cases q with
  | inl v =>
    have hp : CC d 148 [.ref c, .int x1] (I, τ) = some (.inl (some (.int v)), (I', τ')) := hp
    simp (disch := omega) only [kd_mk, hc, gd_true, hp, bdh_ret, vl_some, b_347_5, b_347_7, b_347_9, ho, vp_iN, K0_le h70, and_self, wL_mk, iN_n]
    rfl
  | inr x =>
    have hp : CC d 148 [.ref c, .int x1] (I, τ) = some (.inr x, (I', τ')) := hp
    have hq : x ∈ [0] := hq
    rw [List.mem_singleton] at hq
    subst hq
    simp only [kd_mk, hc, gd_true, hp, bdh_thr, h_347_4_0, b_347_5, b_347_7, b_347_9]
    rfl
theorem w_348 (x1 : Int32) (hp : CC d 149 [.ref c, .int x1] (I, τ) = some (oO q, (I', τ'))) (hq : qin [0] q) (hc : tK τ c = (12, 0)) (ho : tK τ' o = (105, 1)) (h70 : 70 ≤ o) : CC (d + 1) 348 [.ref c, .int x1, .ref o] (I, τ) = some (.inl (some (.int (iN (qc [0] q)))), (I', lwq τ' o q)) := by
  rw [c_348, b_348_0]
  cases q with
  | inl v =>
    have hp : CC d 149 [.ref c, .int x1] (I, τ) = some (.inl (some (.int v)), (I', τ')) := hp
    simp (disch := omega) only [kd_mk, hc, gd_true, hp, bdh_ret, vl_some, b_348_5, b_348_7, b_348_9, ho, vp_iN, K0_le h70, and_self, wL_mk, iN_n]
    rfl
  | inr x =>
    have hp : CC d 149 [.ref c, .int x1] (I, τ) = some (.inr x, (I', τ')) := hp
    have hq : x ∈ [0] := hq
    rw [List.mem_singleton] at hq
    subst hq
    simp only [kd_mk, hc, gd_true, hp, bdh_thr, h_348_4_0, b_348_5, b_348_7, b_348_9]
    rfl
theorem w_349 (x1 : Int32) (hp : CC d 150 [.ref c, .int x1] (I, τ) = some (oO q, (I', τ'))) (hq : qin [0] q) (hc : tK τ c = (12, 0)) (ho : tK τ' o = (105, 1)) (h70 : 70 ≤ o) : CC (d + 1) 349 [.ref c, .int x1, .ref o] (I, τ) = some (.inl (some (.int (iN (qc [0] q)))), (I', lwq τ' o q)) := by
  rw [c_349, b_349_0]
  cases q with
  | inl v =>
    have hp : CC d 150 [.ref c, .int x1] (I, τ) = some (.inl (some (.int v)), (I', τ')) := hp
    simp (disch := omega) only [kd_mk, hc, gd_true, hp, bdh_ret, vl_some, b_349_5, b_349_7, b_349_9, ho, vp_iN, K0_le h70, and_self, wL_mk, iN_n]
    rfl
  | inr x =>
    have hp : CC d 150 [.ref c, .int x1] (I, τ) = some (.inr x, (I', τ')) := hp
    have hq : x ∈ [0] := hq
    rw [List.mem_singleton] at hq
    subst hq
    simp only [kd_mk, hc, gd_true, hp, bdh_thr, h_349_4_0, b_349_5, b_349_7, b_349_9]
    rfl
theorem w_350 (x1 : Int32) (hp : CC d 151 [.ref c, .int x1] (I, τ) = some (oO q, (I', τ'))) (hq : qin [0] q) (hv : ∀ v, q = .inl v → v = iN 0 ∨ v = iN 1) (hc : tK τ c = (12, 0)) (ho : tK τ' o = (105, 1)) (h70 : 70 ≤ o) : CC (d + 1) 350 [.ref c, .int x1, .ref o] (I, τ) = some (.inl (some (.int (iN (qc [0] q)))), (I', lwq τ' o q)) := by
  rw [c_350, b_350_0]
  cases q with
  | inl v =>
    have hp : CC d 151 [.ref c, .int x1] (I, τ) = some (.inl (some (.int v)), (I', τ')) := hp
    rcases hv v rfl with rfl | rfl
    · simp (disch := omega) only [kd_mk, hc, gd_true, hp, bdh_ret, vl_some, b_350_5, b_350_9, b_350_10, b_350_12, iN_eq, if_true, if_false, n10_f, eq_self, ho, vp_iN, K0_le h70, and_self, wL_mk, iN_n]
      show _ = some (Sum.inl (some (Value.int (iN 0))), (I', uL9 τ' o 0 (iN 0).toInt64))
      rw [l01.1]
    · simp (disch := omega) only [kd_mk, hc, gd_true, hp, bdh_ret, vl_some, b_350_5, b_350_9, b_350_10, b_350_12, iN_eq, if_true, if_false, n10_f, eq_self, ho, vp_iN, K0_le h70, and_self, wL_mk, iN_n]
      show _ = some (Sum.inl (some (Value.int (iN 0))), (I', uL9 τ' o 0 (iN 1).toInt64))
      rw [l01.2]
  | inr x =>
    have hp : CC d 151 [.ref c, .int x1] (I, τ) = some (.inr x, (I', τ')) := hp
    have hq : x ∈ [0] := hq
    rw [List.mem_singleton] at hq
    subst hq
    simp only [kd_mk, hc, gd_true, hp, bdh_thr, h_350_4_0, b_350_5, b_350_9, b_350_10, b_350_12]
    rfl
theorem w_351 (x1 : Int32) (hp : CC d 152 [.ref c, .int x1] (I, τ) = some (oO q, (I', τ'))) (hq : qin [0] q) (hv : ∀ v, q = .inl v → v = iN 0 ∨ v = iN 1) (hc : tK τ c = (12, 0)) (ho : tK τ' o = (105, 1)) (h70 : 70 ≤ o) : CC (d + 1) 351 [.ref c, .int x1, .ref o] (I, τ) = some (.inl (some (.int (iN (qc [0] q)))), (I', lwq τ' o q)) := by
  rw [c_351, b_351_0]
  cases q with
  | inl v =>
    have hp : CC d 152 [.ref c, .int x1] (I, τ) = some (.inl (some (.int v)), (I', τ')) := hp
    rcases hv v rfl with rfl | rfl
    · simp (disch := omega) only [kd_mk, hc, gd_true, hp, bdh_ret, vl_some, b_351_5, b_351_9, b_351_10, b_351_12, iN_eq, if_true, if_false, n10_f, eq_self, ho, vp_iN, K0_le h70, and_self, wL_mk, iN_n]
      show _ = some (Sum.inl (some (Value.int (iN 0))), (I', uL9 τ' o 0 (iN 0).toInt64))
      rw [l01.1]
    · simp (disch := omega) only [kd_mk, hc, gd_true, hp, bdh_ret, vl_some, b_351_5, b_351_9, b_351_10, b_351_12, iN_eq, if_true, if_false, n10_f, eq_self, ho, vp_iN, K0_le h70, and_self, wL_mk, iN_n]
      show _ = some (Sum.inl (some (Value.int (iN 0))), (I', uL9 τ' o 0 (iN 1).toInt64))
      rw [l01.2]
  | inr x =>
    have hp : CC d 152 [.ref c, .int x1] (I, τ) = some (.inr x, (I', τ')) := hp
    have hq : x ∈ [0] := hq
    rw [List.mem_singleton] at hq
    subst hq
    simp only [kd_mk, hc, gd_true, hp, bdh_thr, h_351_4_0, b_351_5, b_351_9, b_351_10, b_351_12]
    rfl
theorem w_352 (x1 : Int32) (hp : CC d 153 [.ref c, .int x1] (I, τ) = some (oO q, (I', τ'))) (hq : qin [3] q) (hc : tK τ c = (12, 0)) (ho : tK τ' o = (105, 1)) (h70 : 70 ≤ o) : CC (d + 1) 352 [.ref c, .int x1, .ref o] (I, τ) = some (.inl (some (.int (iN (qc [3] q)))), (I', lwq τ' o q)) := by
  rw [c_352, b_352_0]
  cases q with
  | inl v =>
    have hp : CC d 153 [.ref c, .int x1] (I, τ) = some (.inl (some (.int v)), (I', τ')) := hp
    simp (disch := omega) only [kd_mk, hc, gd_true, hp, bdh_ret, vl_some, b_352_5, b_352_7, b_352_9, ho, vp_iN, K0_le h70, and_self, wL_mk, iN_n]
    rfl
  | inr x =>
    have hp : CC d 153 [.ref c, .int x1] (I, τ) = some (.inr x, (I', τ')) := hp
    have hq : x ∈ [3] := hq
    rw [List.mem_singleton] at hq
    subst hq
    simp only [kd_mk, hc, gd_true, hp, bdh_thr, h_352_4_3, b_352_5, b_352_7, b_352_9]
    rfl
theorem w_353 (x1 : Int32) (hp : CC d 154 [.ref c, .int x1] (I, τ) = some (oO q, (I', τ'))) (hq : qin [0, 3] q) (hc : tK τ c = (12, 0)) (ho : tK τ' o = (105, 1)) (h70 : 70 ≤ o) : CC (d + 1) 353 [.ref c, .int x1, .ref o] (I, τ) = some (.inl (some (.int (iN (qc [0, 3] q)))), (I', lwq τ' o q)) := by
  rw [c_353, b_353_0]
  cases q with
  | inl v =>
    have hp : CC d 154 [.ref c, .int x1] (I, τ) = some (.inl (some (.int v)), (I', τ')) := hp
    simp (disch := omega) only [kd_mk, hc, gd_true, hp, bdh_ret, vl_some, b_353_5, b_353_7, b_353_9, b_353_12, ho, vp_iN, K0_le h70, and_self, wL_mk, iN_n]
    rfl
  | inr x =>
    have hp : CC d 154 [.ref c, .int x1] (I, τ) = some (.inr x, (I', τ')) := hp
    have hq : x ∈ [0, 3] := hq
    simp only [List.mem_cons, List.not_mem_nil, or_false] at hq
    rcases hq with rfl | rfl
    · simp only [kd_mk, hc, gd_true, hp, bdh_thr, h_353_4_0, b_353_5, b_353_7, b_353_9, b_353_12]
      rfl
    · simp only [kd_mk, hc, gd_true, hp, bdh_thr, h_353_4_3, b_353_5, b_353_7, b_353_9, b_353_12]
      rfl
theorem w_354 (x1 : Int32) (hp : CC d 156 [.ref c, .int x1] (I, τ) = some (oO q, (I', τ'))) (hq : qin [3] q) (hc : tK τ c = (12, 0)) (ho : tK τ' o = (105, 1)) (h70 : 70 ≤ o) : CC (d + 1) 354 [.ref c, .int x1, .ref o] (I, τ) = some (.inl (some (.int (iN (qc [3] q)))), (I', lwq τ' o q)) := by
  rw [c_354, b_354_0]
  cases q with
  | inl v =>
    have hp : CC d 156 [.ref c, .int x1] (I, τ) = some (.inl (some (.int v)), (I', τ')) := hp
    simp (disch := omega) only [kd_mk, hc, gd_true, hp, bdh_ret, vl_some, b_354_5, b_354_7, b_354_9, ho, vp_iN, K0_le h70, and_self, wL_mk, iN_n]
    rfl
  | inr x =>
    have hp : CC d 156 [.ref c, .int x1] (I, τ) = some (.inr x, (I', τ')) := hp
    have hq : x ∈ [3] := hq
    rw [List.mem_singleton] at hq
    subst hq
    simp only [kd_mk, hc, gd_true, hp, bdh_thr, h_354_4_3, b_354_5, b_354_7, b_354_9]
    rfl
theorem w_355 (x1 : Int32) (hp : CC d 157 [.ref c, .int x1] (I, τ) = some (oO q, (I', τ'))) (hq : qin [3] q) (hc : tK τ c = (12, 0)) (ho : tK τ' o = (105, 1)) (h70 : 70 ≤ o) : CC (d + 1) 355 [.ref c, .int x1, .ref o] (I, τ) = some (.inl (some (.int (iN (qc [3] q)))), (I', lwq τ' o q)) := by
  rw [c_355, b_355_0]
  cases q with
  | inl v =>
    have hp : CC d 157 [.ref c, .int x1] (I, τ) = some (.inl (some (.int v)), (I', τ')) := hp
    simp (disch := omega) only [kd_mk, hc, gd_true, hp, bdh_ret, vl_some, b_355_5, b_355_7, b_355_9, ho, vp_iN, K0_le h70, and_self, wL_mk, iN_n]
    rfl
  | inr x =>
    have hp : CC d 157 [.ref c, .int x1] (I, τ) = some (.inr x, (I', τ')) := hp
    have hq : x ∈ [3] := hq
    rw [List.mem_singleton] at hq
    subst hq
    simp only [kd_mk, hc, gd_true, hp, bdh_thr, h_355_4_3, b_355_5, b_355_7, b_355_9]
    rfl
theorem w_356 (x1 : Int32) (hp : CC d 158 [.ref c, .int x1] (I, τ) = some (oO q, (I', τ'))) (hq : qin [3] q) (hc : tK τ c = (12, 0)) (ho : tK τ' o = (105, 1)) (h70 : 70 ≤ o) : CC (d + 1) 356 [.ref c, .int x1, .ref o] (I, τ) = some (.inl (some (.int (iN (qc [3] q)))), (I', lwq τ' o q)) := by
  rw [c_356, b_356_0]
  cases q with
  | inl v =>
    have hp : CC d 158 [.ref c, .int x1] (I, τ) = some (.inl (some (.int v)), (I', τ')) := hp
    simp (disch := omega) only [kd_mk, hc, gd_true, hp, bdh_ret, vl_some, b_356_5, b_356_7, b_356_9, ho, vp_iN, K0_le h70, and_self, wL_mk, iN_n]
    rfl
  | inr x =>
    have hp : CC d 158 [.ref c, .int x1] (I, τ) = some (.inr x, (I', τ')) := hp
    have hq : x ∈ [3] := hq
    rw [List.mem_singleton] at hq
    subst hq
    simp only [kd_mk, hc, gd_true, hp, bdh_thr, h_356_4_3, b_356_5, b_356_7, b_356_9]
    rfl
theorem w_357 (x1 : Int32) (hp : CC d 159 [.ref c, .int x1] (I, τ) = some (oO q, (I', τ'))) (hq : qin [3] q) (hc : tK τ c = (12, 0)) (ho : tK τ' o = (105, 1)) (h70 : 70 ≤ o) : CC (d + 1) 357 [.ref c, .int x1, .ref o] (I, τ) = some (.inl (some (.int (iN (qc [3] q)))), (I', lwq τ' o q)) := by
  rw [c_357, b_357_0]
  cases q with
  | inl v =>
    have hp : CC d 159 [.ref c, .int x1] (I, τ) = some (.inl (some (.int v)), (I', τ')) := hp
    simp (disch := omega) only [kd_mk, hc, gd_true, hp, bdh_ret, vl_some, b_357_5, b_357_7, b_357_9, ho, vp_iN, K0_le h70, and_self, wL_mk, iN_n]
    rfl
  | inr x =>
    have hp : CC d 159 [.ref c, .int x1] (I, τ) = some (.inr x, (I', τ')) := hp
    have hq : x ∈ [3] := hq
    rw [List.mem_singleton] at hq
    subst hq
    simp only [kd_mk, hc, gd_true, hp, bdh_thr, h_357_4_3, b_357_5, b_357_7, b_357_9]
    rfl
theorem w_358 (x1 : Int32) (hp : CC d 160 [.ref c, .int x1] (I, τ) = some (oO q, (I', τ'))) (hq : qin [3] q) (hv : ∀ v, q = .inl v → v = iN 0 ∨ v = iN 1) (hc : tK τ c = (12, 0)) (ho : tK τ' o = (105, 1)) (h70 : 70 ≤ o) : CC (d + 1) 358 [.ref c, .int x1, .ref o] (I, τ) = some (.inl (some (.int (iN (qc [3] q)))), (I', lwq τ' o q)) := by
  rw [c_358, b_358_0]
  cases q with
  | inl v =>
    have hp : CC d 160 [.ref c, .int x1] (I, τ) = some (.inl (some (.int v)), (I', τ')) := hp
    rcases hv v rfl with rfl | rfl
    · simp (disch := omega) only [kd_mk, hc, gd_true, hp, bdh_ret, vl_some, b_358_5, b_358_9, b_358_10, b_358_12, iN_eq, if_true, if_false, n10_f, eq_self, ho, vp_iN, K0_le h70, and_self, wL_mk, iN_n]
      show _ = some (Sum.inl (some (Value.int (iN 0))), (I', uL9 τ' o 0 (iN 0).toInt64))
      rw [l01.1]
    · simp (disch := omega) only [kd_mk, hc, gd_true, hp, bdh_ret, vl_some, b_358_5, b_358_9, b_358_10, b_358_12, iN_eq, if_true, if_false, n10_f, eq_self, ho, vp_iN, K0_le h70, and_self, wL_mk, iN_n]
      show _ = some (Sum.inl (some (Value.int (iN 0))), (I', uL9 τ' o 0 (iN 1).toInt64))
      rw [l01.2]
  | inr x =>
    have hp : CC d 160 [.ref c, .int x1] (I, τ) = some (.inr x, (I', τ')) := hp
    have hq : x ∈ [3] := hq
    rw [List.mem_singleton] at hq
    subst hq
    simp only [kd_mk, hc, gd_true, hp, bdh_thr, h_358_4_3, b_358_5, b_358_9, b_358_10, b_358_12]
    rfl
theorem w_359 (x1 : Int32) (hp : CC d 161 [.ref c, .int x1] (I, τ) = some (oO q, (I', τ'))) (hq : qin [3] q) (hc : tK τ c = (12, 0)) (ho : tK τ' o = (105, 1)) (h70 : 70 ≤ o) : CC (d + 1) 359 [.ref c, .int x1, .ref o] (I, τ) = some (.inl (some (.int (iN (qc [3] q)))), (I', lwq τ' o q)) := by
  rw [c_359, b_359_0]
  cases q with
  | inl v =>
    have hp : CC d 161 [.ref c, .int x1] (I, τ) = some (.inl (some (.int v)), (I', τ')) := hp
    simp (disch := omega) only [kd_mk, hc, gd_true, hp, bdh_ret, vl_some, b_359_5, b_359_7, b_359_9, ho, vp_iN, K0_le h70, and_self, wL_mk, iN_n]
    rfl
  | inr x =>
    have hp : CC d 161 [.ref c, .int x1] (I, τ) = some (.inr x, (I', τ')) := hp
    have hq : x ∈ [3] := hq
    rw [List.mem_singleton] at hq
    subst hq
    simp only [kd_mk, hc, gd_true, hp, bdh_thr, h_359_4_3, b_359_5, b_359_7, b_359_9]
    rfl
theorem w_360 (x1 : Int32) (hp : CC d 162 [.ref c, .int x1] (I, τ) = some (oO q, (I', τ'))) (hq : qin [3] q) (hc : tK τ c = (12, 0)) (ho : tK τ' o = (105, 1)) (h70 : 70 ≤ o) : CC (d + 1) 360 [.ref c, .int x1, .ref o] (I, τ) = some (.inl (some (.int (iN (qc [3] q)))), (I', lwq τ' o q)) := by
  rw [c_360, b_360_0]
  cases q with
  | inl v =>
    have hp : CC d 162 [.ref c, .int x1] (I, τ) = some (.inl (some (.int v)), (I', τ')) := hp
    simp (disch := omega) only [kd_mk, hc, gd_true, hp, bdh_ret, vl_some, b_360_5, b_360_7, b_360_9, ho, vp_iN, K0_le h70, and_self, wL_mk, iN_n]
    rfl
  | inr x =>
    have hp : CC d 162 [.ref c, .int x1] (I, τ) = some (.inr x, (I', τ')) := hp
    have hq : x ∈ [3] := hq
    rw [List.mem_singleton] at hq
    subst hq
    simp only [kd_mk, hc, gd_true, hp, bdh_thr, h_360_4_3, b_360_5, b_360_7, b_360_9]
    rfl
theorem w_361 (x1 : Int32) (hp : CC d 163 [.ref c, .int x1] (I, τ) = some (oO q, (I', τ'))) (hq : qin [3] q) (hc : tK τ c = (12, 0)) (ho : tK τ' o = (105, 1)) (h70 : 70 ≤ o) : CC (d + 1) 361 [.ref c, .int x1, .ref o] (I, τ) = some (.inl (some (.int (iN (qc [3] q)))), (I', lwq τ' o q)) := by
  rw [c_361, b_361_0]
  cases q with
  | inl v =>
    have hp : CC d 163 [.ref c, .int x1] (I, τ) = some (.inl (some (.int v)), (I', τ')) := hp
    simp (disch := omega) only [kd_mk, hc, gd_true, hp, bdh_ret, vl_some, b_361_5, b_361_7, b_361_9, ho, vp_iN, K0_le h70, and_self, wL_mk, iN_n]
    rfl
  | inr x =>
    have hp : CC d 163 [.ref c, .int x1] (I, τ) = some (.inr x, (I', τ')) := hp
    have hq : x ∈ [3] := hq
    rw [List.mem_singleton] at hq
    subst hq
    simp only [kd_mk, hc, gd_true, hp, bdh_thr, h_361_4_3, b_361_5, b_361_7, b_361_9]
    rfl
theorem w_362 (x1 : Int32) (hp : CC d 166 [.ref c, .int x1] (I, τ) = some (oO q, (I', τ'))) (hq : qin [3] q) (hc : tK τ c = (12, 0)) (ho : tK τ' o = (105, 1)) (h70 : 70 ≤ o) : CC (d + 1) 362 [.ref c, .int x1, .ref o] (I, τ) = some (.inl (some (.int (iN (qc [3] q)))), (I', lwq τ' o q)) := by
  rw [c_362, b_362_0]
  cases q with
  | inl v =>
    have hp : CC d 166 [.ref c, .int x1] (I, τ) = some (.inl (some (.int v)), (I', τ')) := hp
    simp (disch := omega) only [kd_mk, hc, gd_true, hp, bdh_ret, vl_some, b_362_5, b_362_7, b_362_9, ho, vp_iN, K0_le h70, and_self, wL_mk, iN_n]
    rfl
  | inr x =>
    have hp : CC d 166 [.ref c, .int x1] (I, τ) = some (.inr x, (I', τ')) := hp
    have hq : x ∈ [3] := hq
    rw [List.mem_singleton] at hq
    subst hq
    simp only [kd_mk, hc, gd_true, hp, bdh_thr, h_362_4_3, b_362_5, b_362_7, b_362_9]
    rfl
theorem w_363 (x1 : Int32) (hp : CC d 167 [.ref c, .int x1] (I, τ) = some (oO q, (I', τ'))) (hq : qin [1] q) (hc : tK τ c = (12, 0)) (ho : tK τ' o = (105, 1)) (h70 : 70 ≤ o) : CC (d + 1) 363 [.ref c, .int x1, .ref o] (I, τ) = some (.inl (some (.int (iN (qc [1] q)))), (I', lwq τ' o q)) := by
  rw [c_363, b_363_0]
  cases q with
  | inl v =>
    have hp : CC d 167 [.ref c, .int x1] (I, τ) = some (.inl (some (.int v)), (I', τ')) := hp
    simp (disch := omega) only [kd_mk, hc, gd_true, hp, bdh_ret, vl_some, b_363_5, b_363_7, b_363_9, ho, vp_iN, K0_le h70, and_self, wL_mk, iN_n]
    rfl
  | inr x =>
    have hp : CC d 167 [.ref c, .int x1] (I, τ) = some (.inr x, (I', τ')) := hp
    have hq : x ∈ [1] := hq
    rw [List.mem_singleton] at hq
    subst hq
    simp only [kd_mk, hc, gd_true, hp, bdh_thr, h_363_4_1, b_363_5, b_363_7, b_363_9]
    rfl
theorem w_364 (x1 : Int32) (hp : CC d 168 [.ref c, .int x1] (I, τ) = some (oO q, (I', τ'))) (hq : qin [1, 4] q) (hc : tK τ c = (12, 0)) (ho : tK τ' o = (105, 1)) (h70 : 70 ≤ o) : CC (d + 1) 364 [.ref c, .int x1, .ref o] (I, τ) = some (.inl (some (.int (iN (qc [1, 4] q)))), (I', lwq τ' o q)) := by
  rw [c_364, b_364_0]
  cases q with
  | inl v =>
    have hp : CC d 168 [.ref c, .int x1] (I, τ) = some (.inl (some (.int v)), (I', τ')) := hp
    simp (disch := omega) only [kd_mk, hc, gd_true, hp, bdh_ret, vl_some, b_364_5, b_364_7, b_364_9, b_364_12, ho, vp_iN, K0_le h70, and_self, wL_mk, iN_n]
    rfl
  | inr x =>
    have hp : CC d 168 [.ref c, .int x1] (I, τ) = some (.inr x, (I', τ')) := hp
    have hq : x ∈ [1, 4] := hq
    simp only [List.mem_cons, List.not_mem_nil, or_false] at hq
    rcases hq with rfl | rfl
    · simp only [kd_mk, hc, gd_true, hp, bdh_thr, h_364_4_1, b_364_5, b_364_7, b_364_9, b_364_12]
      rfl
    · simp only [kd_mk, hc, gd_true, hp, bdh_thr, h_364_4_4, b_364_5, b_364_7, b_364_9, b_364_12]
      rfl
theorem w_365 (x1 : Int32) (hp : CC d 169 [.ref c, .int x1] (I, τ) = some (oO q, (I', τ'))) (hq : qin [1, 4] q) (hc : tK τ c = (12, 0)) (ho : tK τ' o = (105, 1)) (h70 : 70 ≤ o) : CC (d + 1) 365 [.ref c, .int x1, .ref o] (I, τ) = some (.inl (some (.int (iN (qc [1, 4] q)))), (I', lwq τ' o q)) := by
  rw [c_365, b_365_0]
  cases q with
  | inl v =>
    have hp : CC d 169 [.ref c, .int x1] (I, τ) = some (.inl (some (.int v)), (I', τ')) := hp
    simp (disch := omega) only [kd_mk, hc, gd_true, hp, bdh_ret, vl_some, b_365_5, b_365_7, b_365_9, b_365_12, ho, vp_iN, K0_le h70, and_self, wL_mk, iN_n]
    rfl
  | inr x =>
    have hp : CC d 169 [.ref c, .int x1] (I, τ) = some (.inr x, (I', τ')) := hp
    have hq : x ∈ [1, 4] := hq
    simp only [List.mem_cons, List.not_mem_nil, or_false] at hq
    rcases hq with rfl | rfl
    · simp only [kd_mk, hc, gd_true, hp, bdh_thr, h_365_4_1, b_365_5, b_365_7, b_365_9, b_365_12]
      rfl
    · simp only [kd_mk, hc, gd_true, hp, bdh_thr, h_365_4_4, b_365_5, b_365_7, b_365_9, b_365_12]
      rfl
theorem w_368 (x1 : Int32) (hp : CC d 180 [.ref c, .int x1] (I, τ) = some (oO q, (I', τ'))) (hq : qin [0] q) (hc : tK τ c = (12, 0)) (ho : tK τ' o = (105, 1)) (h70 : 70 ≤ o) : CC (d + 1) 368 [.ref c, .int x1, .ref o] (I, τ) = some (.inl (some (.int (iN (qc [0] q)))), (I', lwq τ' o q)) := by
  rw [c_368, b_368_0]
  cases q with
  | inl v =>
    have hp : CC d 180 [.ref c, .int x1] (I, τ) = some (.inl (some (.int v)), (I', τ')) := hp
    simp (disch := omega) only [kd_mk, hc, gd_true, hp, bdh_ret, vl_some, b_368_5, b_368_7, b_368_9, ho, vp_iN, K0_le h70, and_self, wL_mk, iN_n]
    rfl
  | inr x =>
    have hp : CC d 180 [.ref c, .int x1] (I, τ) = some (.inr x, (I', τ')) := hp
    have hq : x ∈ [0] := hq
    rw [List.mem_singleton] at hq
    subst hq
    simp only [kd_mk, hc, gd_true, hp, bdh_thr, h_368_4_0, b_368_5, b_368_7, b_368_9]
    rfl
theorem w_369 (x1 : Int32) (hp : CC d 181 [.ref c, .int x1] (I, τ) = some (oO q, (I', τ'))) (hq : qin [3] q) (hc : tK τ c = (12, 0)) (ho : tK τ' o = (105, 1)) (h70 : 70 ≤ o) : CC (d + 1) 369 [.ref c, .int x1, .ref o] (I, τ) = some (.inl (some (.int (iN (qc [3] q)))), (I', lwq τ' o q)) := by
  rw [c_369, b_369_0]
  cases q with
  | inl v =>
    have hp : CC d 181 [.ref c, .int x1] (I, τ) = some (.inl (some (.int v)), (I', τ')) := hp
    simp (disch := omega) only [kd_mk, hc, gd_true, hp, bdh_ret, vl_some, b_369_5, b_369_7, b_369_9, ho, vp_iN, K0_le h70, and_self, wL_mk, iN_n]
    rfl
  | inr x =>
    have hp : CC d 181 [.ref c, .int x1] (I, τ) = some (.inr x, (I', τ')) := hp
    have hq : x ∈ [3] := hq
    rw [List.mem_singleton] at hq
    subst hq
    simp only [kd_mk, hc, gd_true, hp, bdh_thr, h_369_4_3, b_369_5, b_369_7, b_369_9]
    rfl
theorem w_370 (x1 : Int32) (hp : CC d 182 [.ref c, .int x1] (I, τ) = some (oO q, (I', τ'))) (hq : qin [0] q) (hc : tK τ c = (12, 0)) (ho : tK τ' o = (105, 1)) (h70 : 70 ≤ o) : CC (d + 1) 370 [.ref c, .int x1, .ref o] (I, τ) = some (.inl (some (.int (iN (qc [0] q)))), (I', lwq τ' o q)) := by
  rw [c_370, b_370_0]
  cases q with
  | inl v =>
    have hp : CC d 182 [.ref c, .int x1] (I, τ) = some (.inl (some (.int v)), (I', τ')) := hp
    simp (disch := omega) only [kd_mk, hc, gd_true, hp, bdh_ret, vl_some, b_370_5, b_370_7, b_370_9, ho, vp_iN, K0_le h70, and_self, wL_mk, iN_n]
    rfl
  | inr x =>
    have hp : CC d 182 [.ref c, .int x1] (I, τ) = some (.inr x, (I', τ')) := hp
    have hq : x ∈ [0] := hq
    rw [List.mem_singleton] at hq
    subst hq
    simp only [kd_mk, hc, gd_true, hp, bdh_thr, h_370_4_0, b_370_5, b_370_7, b_370_9]
    rfl
theorem w_371 (x1 : Int32) (hp : CC d 183 [.ref c, .int x1] (I, τ) = some (oO q, (I', τ'))) (hq : qin [1, 2] q) (hc : tK τ c = (12, 0)) (ho : tK τ' o = (105, 1)) (h70 : 70 ≤ o) : CC (d + 1) 371 [.ref c, .int x1, .ref o] (I, τ) = some (.inl (some (.int (iN (qc [1, 2] q)))), (I', lwq τ' o q)) := by
  rw [c_371, b_371_0]
  cases q with
  | inl v =>
    have hp : CC d 183 [.ref c, .int x1] (I, τ) = some (.inl (some (.int v)), (I', τ')) := hp
    simp (disch := omega) only [kd_mk, hc, gd_true, hp, bdh_ret, vl_some, b_371_5, b_371_7, b_371_9, b_371_12, ho, vp_iN, K0_le h70, and_self, wL_mk, iN_n]
    rfl
  | inr x =>
    have hp : CC d 183 [.ref c, .int x1] (I, τ) = some (.inr x, (I', τ')) := hp
    have hq : x ∈ [1, 2] := hq
    simp only [List.mem_cons, List.not_mem_nil, or_false] at hq
    rcases hq with rfl | rfl
    · simp only [kd_mk, hc, gd_true, hp, bdh_thr, h_371_4_1, b_371_5, b_371_7, b_371_9, b_371_12]
      rfl
    · simp only [kd_mk, hc, gd_true, hp, bdh_thr, h_371_4_2, b_371_5, b_371_7, b_371_9, b_371_12]
      rfl
theorem w_372 (hp : CC d 184 [.ref c] (I, τ) = some (oO q, (I', τ'))) (hq : qin [1, 2] q) (hc : tK τ c = (12, 0)) (ho : tK τ' o = (105, 1)) (h70 : 70 ≤ o) : CC (d + 1) 372 [.ref c, .ref o] (I, τ) = some (.inl (some (.int (iN (qc [1, 2] q)))), (I', lwq τ' o q)) := by
  rw [c_372, b_372_0]
  cases q with
  | inl v =>
    have hp : CC d 184 [.ref c] (I, τ) = some (.inl (some (.int v)), (I', τ')) := hp
    simp (disch := omega) only [kd_mk, hc, gd_true, hp, bdh_ret, vl_some, b_372_4, b_372_6, b_372_8, b_372_11, ho, vp_iN, K0_le h70, and_self, wL_mk, iN_n]
    rfl
  | inr x =>
    have hp : CC d 184 [.ref c] (I, τ) = some (.inr x, (I', τ')) := hp
    have hq : x ∈ [1, 2] := hq
    simp only [List.mem_cons, List.not_mem_nil, or_false] at hq
    rcases hq with rfl | rfl
    · simp only [kd_mk, hc, gd_true, hp, bdh_thr, h_372_3_1, b_372_4, b_372_6, b_372_8, b_372_11]
      rfl
    · simp only [kd_mk, hc, gd_true, hp, bdh_thr, h_372_3_2, b_372_4, b_372_6, b_372_8, b_372_11]
      rfl
theorem w_373 (hp : CC d 185 [.ref c] (I, τ) = some (oO q, (I', τ'))) (hq : qin [3] q) (hc : tK τ c = (12, 0)) (ho : tK τ' o = (105, 1)) (h70 : 70 ≤ o) : CC (d + 1) 373 [.ref c, .ref o] (I, τ) = some (.inl (some (.int (iN (qc [3] q)))), (I', lwq τ' o q)) := by
  rw [c_373, b_373_0]
  cases q with
  | inl v =>
    have hp : CC d 185 [.ref c] (I, τ) = some (.inl (some (.int v)), (I', τ')) := hp
    simp (disch := omega) only [kd_mk, hc, gd_true, hp, bdh_ret, vl_some, b_373_4, b_373_6, b_373_8, ho, vp_iN, K0_le h70, and_self, wL_mk, iN_n]
    rfl
  | inr x =>
    have hp : CC d 185 [.ref c] (I, τ) = some (.inr x, (I', τ')) := hp
    have hq : x ∈ [3] := hq
    rw [List.mem_singleton] at hq
    subst hq
    simp only [kd_mk, hc, gd_true, hp, bdh_thr, h_373_3_3, b_373_4, b_373_6, b_373_8]
    rfl
theorem w_374 (hp : CC d 186 [.ref c] (I, τ) = some (oO q, (I', τ'))) (hq : qin [3] q) (hc : tK τ c = (12, 0)) (ho : tK τ' o = (105, 1)) (h70 : 70 ≤ o) : CC (d + 1) 374 [.ref c, .ref o] (I, τ) = some (.inl (some (.int (iN (qc [3] q)))), (I', lwq τ' o q)) := by
  rw [c_374, b_374_0]
  cases q with
  | inl v =>
    have hp : CC d 186 [.ref c] (I, τ) = some (.inl (some (.int v)), (I', τ')) := hp
    simp (disch := omega) only [kd_mk, hc, gd_true, hp, bdh_ret, vl_some, b_374_4, b_374_6, b_374_8, ho, vp_iN, K0_le h70, and_self, wL_mk, iN_n]
    rfl
  | inr x =>
    have hp : CC d 186 [.ref c] (I, τ) = some (.inr x, (I', τ')) := hp
    have hq : x ∈ [3] := hq
    rw [List.mem_singleton] at hq
    subst hq
    simp only [kd_mk, hc, gd_true, hp, bdh_thr, h_374_3_3, b_374_4, b_374_6, b_374_8]
    rfl
theorem w_375 (hp : CC d 187 [.ref c] (I, τ) = some (oO q, (I', τ'))) (hq : qin [3] q) (hc : tK τ c = (12, 0)) (ho : tK τ' o = (105, 1)) (h70 : 70 ≤ o) : CC (d + 1) 375 [.ref c, .ref o] (I, τ) = some (.inl (some (.int (iN (qc [3] q)))), (I', lwq τ' o q)) := by
  rw [c_375, b_375_0]
  cases q with
  | inl v =>
    have hp : CC d 187 [.ref c] (I, τ) = some (.inl (some (.int v)), (I', τ')) := hp
    simp (disch := omega) only [kd_mk, hc, gd_true, hp, bdh_ret, vl_some, b_375_4, b_375_6, b_375_8, ho, vp_iN, K0_le h70, and_self, wL_mk, iN_n]
    rfl
  | inr x =>
    have hp : CC d 187 [.ref c] (I, τ) = some (.inr x, (I', τ')) := hp
    have hq : x ∈ [3] := hq
    rw [List.mem_singleton] at hq
    subst hq
    simp only [kd_mk, hc, gd_true, hp, bdh_thr, h_375_3_3, b_375_4, b_375_6, b_375_8]
    rfl
theorem w_376 (hp : CC d 188 [.ref c] (I, τ) = some (oO q, (I', τ'))) (hq : qin [3] q) (hc : tK τ c = (12, 0)) (ho : tK τ' o = (105, 1)) (h70 : 70 ≤ o) : CC (d + 1) 376 [.ref c, .ref o] (I, τ) = some (.inl (some (.int (iN (qc [3] q)))), (I', lwq τ' o q)) := by
  rw [c_376, b_376_0]
  cases q with
  | inl v =>
    have hp : CC d 188 [.ref c] (I, τ) = some (.inl (some (.int v)), (I', τ')) := hp
    simp (disch := omega) only [kd_mk, hc, gd_true, hp, bdh_ret, vl_some, b_376_4, b_376_6, b_376_8, ho, vp_iN, K0_le h70, and_self, wL_mk, iN_n]
    rfl
  | inr x =>
    have hp : CC d 188 [.ref c] (I, τ) = some (.inr x, (I', τ')) := hp
    have hq : x ∈ [3] := hq
    rw [List.mem_singleton] at hq
    subst hq
    simp only [kd_mk, hc, gd_true, hp, bdh_thr, h_376_3_3, b_376_4, b_376_6, b_376_8]
    rfl
theorem w_377 (hp : CC d 190 [.ref c] (I, τ) = some (oO q, (I', τ'))) (hq : qin [2] q) (hc : tK τ c = (12, 0)) (ho : tK τ' o = (105, 1)) (h70 : 70 ≤ o) : CC (d + 1) 377 [.ref c, .ref o] (I, τ) = some (.inl (some (.int (iN (qc [2] q)))), (I', lwq τ' o q)) := by
  rw [c_377, b_377_0]
  cases q with
  | inl v =>
    have hp : CC d 190 [.ref c] (I, τ) = some (.inl (some (.int v)), (I', τ')) := hp
    simp (disch := omega) only [kd_mk, hc, gd_true, hp, bdh_ret, vl_some, b_377_4, b_377_6, b_377_8, ho, vp_iN, K0_le h70, and_self, wL_mk, iN_n]
    rfl
  | inr x =>
    have hp : CC d 190 [.ref c] (I, τ) = some (.inr x, (I', τ')) := hp
    have hq : x ∈ [2] := hq
    rw [List.mem_singleton] at hq
    subst hq
    simp only [kd_mk, hc, gd_true, hp, bdh_thr, h_377_3_2, b_377_4, b_377_6, b_377_8]
    rfl
end WW
