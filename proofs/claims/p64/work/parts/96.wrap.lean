/-! THE LAW: its wrappers of the calls -/
section WW
variable {d : Nat} {I I' : qq_I} {τ τ' : qq_R} {c : Nat} {q : qR}
theorem w_215 (hq : qin [2] q) (hc : tK τ c = (12, 0)) (I' : qq_I) (τ' : qq_R) (hp : CC d 130 [.ref c] (I, τ) = some (oO q, (I', τ'))) : CC (d + 1) 215 [.ref c] (I, τ) = some (.inl (some (.int (wv [2] q))), (I', τ')) := by
  rw [c_215, b_215_0]
  cases q with
  | inl v =>
    have hp : CC d 130 [.ref c] (I, τ) = some (.inl (some (.int v)), (I', τ')) := hp
    simp only [kd_mk, hc, gd_true, hp, bdh_ret, vl_some, b_215_2, b_215_4]
    rfl
  | inr x =>
    have hp : CC d 130 [.ref c] (I, τ) = some (.inr x, (I', τ')) := hp
    have hq : x ∈ [2] := hq
    rw [List.mem_singleton] at hq
    subst hq
    simp only [kd_mk, hc, gd_true, hp, bdh_thr, h_215_1_2, b_215_2, b_215_4]
    rfl
theorem w_216 (x1 x2 : Int32) (hq : qin [0] q) (hc : tK τ c = (12, 0)) (I' : qq_I) (τ' : qq_R) (hp : CC d 131 [.ref c, .int x1, .int x2] (I, τ) = some (oO q, (I', τ'))) : CC (d + 1) 216 [.ref c, .int x1, .int x2] (I, τ) = some (.inl (some (.int (wv [0] q))), (I', τ')) := by
  rw [c_216, b_216_0]
  cases q with
  | inl v =>
    have hp : CC d 131 [.ref c, .int x1, .int x2] (I, τ) = some (.inl (some (.int v)), (I', τ')) := hp
    simp only [kd_mk, hc, gd_true, hp, bdh_ret, vl_some, b_216_4, b_216_6]
    rfl
  | inr x =>
    have hp : CC d 131 [.ref c, .int x1, .int x2] (I, τ) = some (.inr x, (I', τ')) := hp
    have hq : x ∈ [0] := hq
    rw [List.mem_singleton] at hq
    subst hq
    simp only [kd_mk, hc, gd_true, hp, bdh_thr, h_216_3_0, b_216_4, b_216_6]
    rfl
theorem w_217 (x1 x2 : Int32) (hq : qin [0, 1, 2] q) (hc : tK τ c = (12, 0)) (I' : qq_I) (τ' : qq_R) (hp : CC d 132 [.ref c, .int x1, .int x2] (I, τ) = some (oO q, (I', τ'))) : CC (d + 1) 217 [.ref c, .int x1, .int x2] (I, τ) = some (.inl (some (.int (wv [0, 1, 2] q))), (I', τ')) := by
  rw [c_217, b_217_0]
  cases q with
  | inl v =>
    have hp : CC d 132 [.ref c, .int x1, .int x2] (I, τ) = some (.inl (some (.int v)), (I', τ')) := hp
    simp only [kd_mk, hc, gd_true, hp, bdh_ret, vl_some, b_217_4, b_217_6, b_217_9, b_217_12]
    rfl
  | inr x =>
    have hp : CC d 132 [.ref c, .int x1, .int x2] (I, τ) = some (.inr x, (I', τ')) := hp
    have hq : x ∈ [0, 1, 2] := hq
    simp only [List.mem_cons, List.not_mem_nil, or_false] at hq
    rcases hq with rfl | rfl | rfl
    · simp only [kd_mk, hc, gd_true, hp, bdh_thr, h_217_3_0, b_217_4, b_217_6, b_217_9, b_217_12]
      rfl
    · simp only [kd_mk, hc, gd_true, hp, bdh_thr, h_217_3_1, b_217_4, b_217_6, b_217_9, b_217_12]
      rfl
    · simp only [kd_mk, hc, gd_true, hp, bdh_thr, h_217_3_2, b_217_4, b_217_6, b_217_9, b_217_12]
      rfl
theorem w_218 (x1 x2 : Int32) (hq : qin [0] q) (hc : tK τ c = (12, 0)) (I' : qq_I) (τ' : qq_R) (hp : CC d 133 [.ref c, .int x1, .int x2] (I, τ) = some (oO q, (I', τ'))) : CC (d + 1) 218 [.ref c, .int x1, .int x2] (I, τ) = some (.inl (some (.int (wv [0] q))), (I', τ')) := by
  rw [c_218, b_218_0]
  cases q with
  | inl v =>
    have hp : CC d 133 [.ref c, .int x1, .int x2] (I, τ) = some (.inl (some (.int v)), (I', τ')) := hp
    simp only [kd_mk, hc, gd_true, hp, bdh_ret, vl_some, b_218_4, b_218_6]
    rfl
  | inr x =>
    have hp : CC d 133 [.ref c, .int x1, .int x2] (I, τ) = some (.inr x, (I', τ')) := hp
    have hq : x ∈ [0] := hq
    rw [List.mem_singleton] at hq
    subst hq
    simp only [kd_mk, hc, gd_true, hp, bdh_thr, h_218_3_0, b_218_4, b_218_6]
    rfl
theorem w_219 (x1 x2 x3 : Int32) (hq : qin [0, 1, 2] q) (hc : tK τ c = (12, 0)) (I' : qq_I) (τ' : qq_R) (hp : CC d 134 [.ref c, .int x1, .int x2, .int x3] (I, τ) = some (oO q, (I', τ'))) : CC (d + 1) 219 [.ref c, .int x1, .int x2, .int x3] (I, τ) = some (.inl (some (.int (wv [0, 1, 2] q))), (I', τ')) := by
  rw [c_219, b_219_0]
  cases q with
  | inl v =>
    have hp : CC d 134 [.ref c, .int x1, .int x2, .int x3] (I, τ) = some (.inl (some (.int v)), (I', τ')) := hp
    simp only [kd_mk, hc, gd_true, hp, bdh_ret, vl_some, b_219_5, b_219_7, b_219_10, b_219_13]
    rfl
  | inr x =>
    have hp : CC d 134 [.ref c, .int x1, .int x2, .int x3] (I, τ) = some (.inr x, (I', τ')) := hp
    have hq : x ∈ [0, 1, 2] := hq
    simp only [List.mem_cons, List.not_mem_nil, or_false] at hq
    rcases hq with rfl | rfl | rfl
    · simp only [kd_mk, hc, gd_true, hp, bdh_thr, h_219_4_0, b_219_5, b_219_7, b_219_10, b_219_13]
      rfl
    · simp only [kd_mk, hc, gd_true, hp, bdh_thr, h_219_4_1, b_219_5, b_219_7, b_219_10, b_219_13]
      rfl
    · simp only [kd_mk, hc, gd_true, hp, bdh_thr, h_219_4_2, b_219_5, b_219_7, b_219_10, b_219_13]
      rfl
theorem w_220 (x1 x2 x3 x4 : Int32) (hq : qin [0, 1, 3, 2] q) (hc : tK τ c = (12, 0)) (I' : qq_I) (τ' : qq_R) (hp : CC d 135 [.ref c, .int x1, .int x2, .int x3, .int x4] (I, τ) = some (oO q, (I', τ'))) : CC (d + 1) 220 [.ref c, .int x1, .int x2, .int x3, .int x4] (I, τ) = some (.inl (some (.int (wv [0, 1, 3, 2] q))), (I', τ')) := by
  rw [c_220, b_220_0]
  cases q with
  | inl v =>
    have hp : CC d 135 [.ref c, .int x1, .int x2, .int x3, .int x4] (I, τ) = some (.inl (some (.int v)), (I', τ')) := hp
    simp only [kd_mk, hc, gd_true, hp, bdh_ret, vl_some, b_220_6, b_220_8, b_220_11, b_220_14, b_220_17]
    rfl
  | inr x =>
    have hp : CC d 135 [.ref c, .int x1, .int x2, .int x3, .int x4] (I, τ) = some (.inr x, (I', τ')) := hp
    have hq : x ∈ [0, 1, 3, 2] := hq
    simp only [List.mem_cons, List.not_mem_nil, or_false] at hq
    rcases hq with rfl | rfl | rfl | rfl
    · simp only [kd_mk, hc, gd_true, hp, bdh_thr, h_220_5_0, b_220_6, b_220_8, b_220_11, b_220_14, b_220_17]
      rfl
    · simp only [kd_mk, hc, gd_true, hp, bdh_thr, h_220_5_1, b_220_6, b_220_8, b_220_11, b_220_14, b_220_17]
      rfl
    · simp only [kd_mk, hc, gd_true, hp, bdh_thr, h_220_5_3, b_220_6, b_220_8, b_220_11, b_220_14, b_220_17]
      rfl
    · simp only [kd_mk, hc, gd_true, hp, bdh_thr, h_220_5_2, b_220_6, b_220_8, b_220_11, b_220_14, b_220_17]
      rfl
theorem w_221 (x1 x2 : Int32) (hq : qin [1, 2] q) (hc : tK τ c = (12, 0)) (I' : qq_I) (τ' : qq_R) (hp : CC d 136 [.ref c, .int x1, .int x2] (I, τ) = some (oO q, (I', τ'))) : CC (d + 1) 221 [.ref c, .int x1, .int x2] (I, τ) = some (.inl (some (.int (wv [1, 2] q))), (I', τ')) := by
  rw [c_221, b_221_0]
  cases q with
  | inl v =>
    have hp : CC d 136 [.ref c, .int x1, .int x2] (I, τ) = some (.inl (some (.int v)), (I', τ')) := hp
    simp only [kd_mk, hc, gd_true, hp, bdh_ret, vl_some, b_221_4, b_221_6, b_221_9]
    rfl
  | inr x =>
    have hp : CC d 136 [.ref c, .int x1, .int x2] (I, τ) = some (.inr x, (I', τ')) := hp
    have hq : x ∈ [1, 2] := hq
    simp only [List.mem_cons, List.not_mem_nil, or_false] at hq
    rcases hq with rfl | rfl
    · simp only [kd_mk, hc, gd_true, hp, bdh_thr, h_221_3_1, b_221_4, b_221_6, b_221_9]
      rfl
    · simp only [kd_mk, hc, gd_true, hp, bdh_thr, h_221_3_2, b_221_4, b_221_6, b_221_9]
      rfl
theorem w_222 (x1 : Int32) (hq : qin [3, 2, 4] q) (hc : tK τ c = (12, 0)) (I' : qq_I) (τ' : qq_R) (hp : CC d 137 [.ref c, .int x1] (I, τ) = some (oO q, (I', τ'))) : CC (d + 1) 222 [.ref c, .int x1] (I, τ) = some (.inl (some (.int (wv [3, 2, 4] q))), (I', τ')) := by
  rw [c_222, b_222_0]
  cases q with
  | inl v =>
    have hp : CC d 137 [.ref c, .int x1] (I, τ) = some (.inl (some (.int v)), (I', τ')) := hp
    simp only [kd_mk, hc, gd_true, hp, bdh_ret, vl_some, b_222_3, b_222_5, b_222_8, b_222_11]
    rfl
  | inr x =>
    have hp : CC d 137 [.ref c, .int x1] (I, τ) = some (.inr x, (I', τ')) := hp
    have hq : x ∈ [3, 2, 4] := hq
    simp only [List.mem_cons, List.not_mem_nil, or_false] at hq
    rcases hq with rfl | rfl | rfl
    · simp only [kd_mk, hc, gd_true, hp, bdh_thr, h_222_2_3, b_222_3, b_222_5, b_222_8, b_222_11]
      rfl
    · simp only [kd_mk, hc, gd_true, hp, bdh_thr, h_222_2_2, b_222_3, b_222_5, b_222_8, b_222_11]
      rfl
    · simp only [kd_mk, hc, gd_true, hp, bdh_thr, h_222_2_4, b_222_3, b_222_5, b_222_8, b_222_11]
      rfl
theorem w_223 (x1 : Int32) (hq : qin [1] q) (hc : tK τ c = (12, 0)) (I' : qq_I) (τ' : qq_R) (hp : CC d 139 [.ref c, .int x1] (I, τ) = some (oO q, (I', τ'))) : CC (d + 1) 223 [.ref c, .int x1] (I, τ) = some (.inl (some (.int (wv [1] q))), (I', τ')) := by
  rw [c_223, b_223_0]
  cases q with
  | inl v =>
    have hp : CC d 139 [.ref c, .int x1] (I, τ) = some (.inl (some (.int v)), (I', τ')) := hp
    simp only [kd_mk, hc, gd_true, hp, bdh_ret, vl_some, b_223_3, b_223_5]
    rfl
  | inr x =>
    have hp : CC d 139 [.ref c, .int x1] (I, τ) = some (.inr x, (I', τ')) := hp
    have hq : x ∈ [1] := hq
    rw [List.mem_singleton] at hq
    subst hq
    simp only [kd_mk, hc, gd_true, hp, bdh_thr, h_223_2_1, b_223_3, b_223_5]
    rfl
theorem w_224 (x1 : Int32) (hq : qin [0, 3] q) (hc : tK τ c = (12, 0)) (I' : qq_I) (τ' : qq_R) (hp : CC d 143 [.ref c, .int x1] (I, τ) = some (oO q, (I', τ'))) : CC (d + 1) 224 [.ref c, .int x1] (I, τ) = some (.inl (some (.int (wv [0, 3] q))), (I', τ')) := by
  rw [c_224, b_224_0]
  cases q with
  | inl v =>
    have hp : CC d 143 [.ref c, .int x1] (I, τ) = some (.inl (some (.int v)), (I', τ')) := hp
    simp only [kd_mk, hc, gd_true, hp, bdh_ret, vl_some, b_224_3, b_224_5, b_224_8]
    rfl
  | inr x =>
    have hp : CC d 143 [.ref c, .int x1] (I, τ) = some (.inr x, (I', τ')) := hp
    have hq : x ∈ [0, 3] := hq
    simp only [List.mem_cons, List.not_mem_nil, or_false] at hq
    rcases hq with rfl | rfl
    · simp only [kd_mk, hc, gd_true, hp, bdh_thr, h_224_2_0, b_224_3, b_224_5, b_224_8]
      rfl
    · simp only [kd_mk, hc, gd_true, hp, bdh_thr, h_224_2_3, b_224_3, b_224_5, b_224_8]
      rfl
theorem w_225 (x1 : Int32) (hq : qin [3] q) (hc : tK τ c = (12, 0)) (I' : qq_I) (τ' : qq_R) (hp : CC d 153 [.ref c, .int x1] (I, τ) = some (oO q, (I', τ'))) : CC (d + 1) 225 [.ref c, .int x1] (I, τ) = some (.inl (some (.int (wv [3] q))), (I', τ')) := by
  rw [c_225, b_225_0]
  cases q with
  | inl v =>
    have hp : CC d 153 [.ref c, .int x1] (I, τ) = some (.inl (some (.int v)), (I', τ')) := hp
    simp only [kd_mk, hc, gd_true, hp, bdh_ret, vl_some, b_225_3, b_225_5]
    rfl
  | inr x =>
    have hp : CC d 153 [.ref c, .int x1] (I, τ) = some (.inr x, (I', τ')) := hp
    have hq : x ∈ [3] := hq
    rw [List.mem_singleton] at hq
    subst hq
    simp only [kd_mk, hc, gd_true, hp, bdh_thr, h_225_2_3, b_225_3, b_225_5]
    rfl
theorem w_226 (x1 : Int32) (hq : qin [0, 3] q) (hc : tK τ c = (12, 0)) (I' : qq_I) (τ' : qq_R) (hp : CC d 154 [.ref c, .int x1] (I, τ) = some (oO q, (I', τ'))) : CC (d + 1) 226 [.ref c, .int x1] (I, τ) = some (.inl (some (.int (wv [0, 3] q))), (I', τ')) := by
  rw [c_226, b_226_0]
  cases q with
  | inl v =>
    have hp : CC d 154 [.ref c, .int x1] (I, τ) = some (.inl (some (.int v)), (I', τ')) := hp
    simp only [kd_mk, hc, gd_true, hp, bdh_ret, vl_some, b_226_3, b_226_5, b_226_8]
    rfl
  | inr x =>
    have hp : CC d 154 [.ref c, .int x1] (I, τ) = some (.inr x, (I', τ')) := hp
    have hq : x ∈ [0, 3] := hq
    simp only [List.mem_cons, List.not_mem_nil, or_false] at hq
    rcases hq with rfl | rfl
    · simp only [kd_mk, hc, gd_true, hp, bdh_thr, h_226_2_0, b_226_3, b_226_5, b_226_8]
      rfl
    · simp only [kd_mk, hc, gd_true, hp, bdh_thr, h_226_2_3, b_226_3, b_226_5, b_226_8]
      rfl
theorem w_227 (x1 : Int32) (hq : qin [3] q) (hc : tK τ c = (12, 0)) (I' : qq_I) (τ' : qq_R) (hp : CC d 156 [.ref c, .int x1] (I, τ) = some (oO q, (I', τ'))) : CC (d + 1) 227 [.ref c, .int x1] (I, τ) = some (.inl (some (.int (wv [3] q))), (I', τ')) := by
  rw [c_227, b_227_0]
  cases q with
  | inl v =>
    have hp : CC d 156 [.ref c, .int x1] (I, τ) = some (.inl (some (.int v)), (I', τ')) := hp
    simp only [kd_mk, hc, gd_true, hp, bdh_ret, vl_some, b_227_3, b_227_5]
    rfl
  | inr x =>
    have hp : CC d 156 [.ref c, .int x1] (I, τ) = some (.inr x, (I', τ')) := hp
    have hq : x ∈ [3] := hq
    rw [List.mem_singleton] at hq
    subst hq
    simp only [kd_mk, hc, gd_true, hp, bdh_thr, h_227_2_3, b_227_3, b_227_5]
    rfl
theorem w_228 (x1 : Int32) (hq : qin [3] q) (hc : tK τ c = (12, 0)) (I' : qq_I) (τ' : qq_R) (hp : CC d 161 [.ref c, .int x1] (I, τ) = some (oO q, (I', τ'))) : CC (d + 1) 228 [.ref c, .int x1] (I, τ) = some (.inl (some (.int (wv [3] q))), (I', τ')) := by
  rw [c_228, b_228_0]
  cases q with
  | inl v =>
    have hp : CC d 161 [.ref c, .int x1] (I, τ) = some (.inl (some (.int v)), (I', τ')) := hp
    simp only [kd_mk, hc, gd_true, hp, bdh_ret, vl_some, b_228_3, b_228_5]
    rfl
  | inr x =>
    have hp : CC d 161 [.ref c, .int x1] (I, τ) = some (.inr x, (I', τ')) := hp
    have hq : x ∈ [3] := hq
    rw [List.mem_singleton] at hq
    subst hq
    simp only [kd_mk, hc, gd_true, hp, bdh_thr, h_228_2_3, b_228_3, b_228_5]
    rfl
theorem w_229 (x1 : Int32) (hq : qin [3] q) (hc : tK τ c = (12, 0)) (I' : qq_I) (τ' : qq_R) (hp : CC d 162 [.ref c, .int x1] (I, τ) = some (oO q, (I', τ'))) : CC (d + 1) 229 [.ref c, .int x1] (I, τ) = some (.inl (some (.int (wv [3] q))), (I', τ')) := by
  rw [c_229, b_229_0]
  cases q with
  | inl v =>
    have hp : CC d 162 [.ref c, .int x1] (I, τ) = some (.inl (some (.int v)), (I', τ')) := hp
    simp only [kd_mk, hc, gd_true, hp, bdh_ret, vl_some, b_229_3, b_229_5]
    rfl
  | inr x =>
    have hp : CC d 162 [.ref c, .int x1] (I, τ) = some (.inr x, (I', τ')) := hp
    have hq : x ∈ [3] := hq
    rw [List.mem_singleton] at hq
    subst hq
    simp only [kd_mk, hc, gd_true, hp, bdh_thr, h_229_2_3, b_229_3, b_229_5]
    rfl
theorem w_230 (x1 : Int32) (hq : qin [3] q) (hc : tK τ c = (12, 0)) (I' : qq_I) (τ' : qq_R) (hp : CC d 166 [.ref c, .int x1] (I, τ) = some (oO q, (I', τ'))) : CC (d + 1) 230 [.ref c, .int x1] (I, τ) = some (.inl (some (.int (wv [3] q))), (I', τ')) := by
  rw [c_230, b_230_0]
  cases q with
  | inl v =>
    have hp : CC d 166 [.ref c, .int x1] (I, τ) = some (.inl (some (.int v)), (I', τ')) := hp
    simp only [kd_mk, hc, gd_true, hp, bdh_ret, vl_some, b_230_3, b_230_5]
    rfl
  | inr x =>
    have hp : CC d 166 [.ref c, .int x1] (I, τ) = some (.inr x, (I', τ')) := hp
    have hq : x ∈ [3] := hq
    rw [List.mem_singleton] at hq
    subst hq
    simp only [kd_mk, hc, gd_true, hp, bdh_thr, h_230_2_3, b_230_3, b_230_5]
    rfl
theorem w_231 (x1 : Int32) (hq : qin [1, 4] q) (hc : tK τ c = (12, 0)) (I' : qq_I) (τ' : qq_R) (hp : CC d 168 [.ref c, .int x1] (I, τ) = some (oO q, (I', τ'))) : CC (d + 1) 231 [.ref c, .int x1] (I, τ) = some (.inl (some (.int (wv [1, 4] q))), (I', τ')) := by
  rw [c_231, b_231_0]
  cases q with
  | inl v =>
    have hp : CC d 168 [.ref c, .int x1] (I, τ) = some (.inl (some (.int v)), (I', τ')) := hp
    simp only [kd_mk, hc, gd_true, hp, bdh_ret, vl_some, b_231_3, b_231_5, b_231_8]
    rfl
  | inr x =>
    have hp : CC d 168 [.ref c, .int x1] (I, τ) = some (.inr x, (I', τ')) := hp
    have hq : x ∈ [1, 4] := hq
    simp only [List.mem_cons, List.not_mem_nil, or_false] at hq
    rcases hq with rfl | rfl
    · simp only [kd_mk, hc, gd_true, hp, bdh_thr, h_231_2_1, b_231_3, b_231_5, b_231_8]
      rfl
    · simp only [kd_mk, hc, gd_true, hp, bdh_thr, h_231_2_4, b_231_3, b_231_5, b_231_8]
      rfl
theorem w_232 (x1 : Int32) (hq : qin [1, 4] q) (hc : tK τ c = (12, 0)) (I' : qq_I) (τ' : qq_R) (hp : CC d 169 [.ref c, .int x1] (I, τ) = some (oO q, (I', τ'))) : CC (d + 1) 232 [.ref c, .int x1] (I, τ) = some (.inl (some (.int (wv [1, 4] q))), (I', τ')) := by
  rw [c_232, b_232_0]
  cases q with
  | inl v =>
    have hp : CC d 169 [.ref c, .int x1] (I, τ) = some (.inl (some (.int v)), (I', τ')) := hp
    simp only [kd_mk, hc, gd_true, hp, bdh_ret, vl_some, b_232_3, b_232_5, b_232_8]
    rfl
  | inr x =>
    have hp : CC d 169 [.ref c, .int x1] (I, τ) = some (.inr x, (I', τ')) := hp
    have hq : x ∈ [1, 4] := hq
    simp only [List.mem_cons, List.not_mem_nil, or_false] at hq
    rcases hq with rfl | rfl
    · simp only [kd_mk, hc, gd_true, hp, bdh_thr, h_232_2_1, b_232_3, b_232_5, b_232_8]
      rfl
    · simp only [kd_mk, hc, gd_true, hp, bdh_thr, h_232_2_4, b_232_3, b_232_5, b_232_8]
      rfl
theorem w_233 (hq : qin [1, 2] q) (hc : tK τ c = (12, 0)) (I' : qq_I) (τ' : qq_R) (hp : CC d 184 [.ref c] (I, τ) = some (oO q, (I', τ'))) : CC (d + 1) 233 [.ref c] (I, τ) = some (.inl (some (.int (wv [1, 2] q))), (I', τ')) := by
  rw [c_233, b_233_0]
  cases q with
  | inl v =>
    have hp : CC d 184 [.ref c] (I, τ) = some (.inl (some (.int v)), (I', τ')) := hp
    simp only [kd_mk, hc, gd_true, hp, bdh_ret, vl_some, b_233_2, b_233_4, b_233_7]
    rfl
  | inr x =>
    have hp : CC d 184 [.ref c] (I, τ) = some (.inr x, (I', τ')) := hp
    have hq : x ∈ [1, 2] := hq
    simp only [List.mem_cons, List.not_mem_nil, or_false] at hq
    rcases hq with rfl | rfl
    · simp only [kd_mk, hc, gd_true, hp, bdh_thr, h_233_1_1, b_233_2, b_233_4, b_233_7]
      rfl
    · simp only [kd_mk, hc, gd_true, hp, bdh_thr, h_233_1_2, b_233_2, b_233_4, b_233_7]
      rfl
theorem w_234 (hq : qin [3] q) (hc : tK τ c = (12, 0)) (I' : qq_I) (τ' : qq_R) (hp : CC d 188 [.ref c] (I, τ) = some (oO q, (I', τ'))) : CC (d + 1) 234 [.ref c] (I, τ) = some (.inl (some (.int (wv [3] q))), (I', τ')) := by
  rw [c_234, b_234_0]
  cases q with
  | inl v =>
    have hp : CC d 188 [.ref c] (I, τ) = some (.inl (some (.int v)), (I', τ')) := hp
    simp only [kd_mk, hc, gd_true, hp, bdh_ret, vl_some, b_234_2, b_234_4]
    rfl
  | inr x =>
    have hp : CC d 188 [.ref c] (I, τ) = some (.inr x, (I', τ')) := hp
    have hq : x ∈ [3] := hq
    rw [List.mem_singleton] at hq
    subst hq
    simp only [kd_mk, hc, gd_true, hp, bdh_thr, h_234_1_3, b_234_2, b_234_4]
    rfl
theorem w_235 (hq : qin [2] q) (hc : tK τ c = (12, 0)) (I' : qq_I) (τ' : qq_R) (hp : CC d 190 [.ref c] (I, τ) = some (oO q, (I', τ'))) : CC (d + 1) 235 [.ref c] (I, τ) = some (.inl (some (.int (wv [2] q))), (I', τ')) := by
  rw [c_235, b_235_0]
  cases q with
  | inl v =>
    have hp : CC d 190 [.ref c] (I, τ) = some (.inl (some (.int v)), (I', τ')) := hp
    simp only [kd_mk, hc, gd_true, hp, bdh_ret, vl_some, b_235_2, b_235_4]
    rfl
  | inr x =>
    have hp : CC d 190 [.ref c] (I, τ) = some (.inr x, (I', τ')) := hp
    have hq : x ∈ [2] := hq
    rw [List.mem_singleton] at hq
    subst hq
    simp only [kd_mk, hc, gd_true, hp, bdh_thr, h_235_1_2, b_235_2, b_235_4]
    rfl
theorem w_236 (x1 : Int32) (hq : qin [3, 2] q) (hc : tK τ c = (12, 0)) (I' : qq_I) (τ' : qq_R) (hp : CC d 138 [.ref c, .int x1] (I, τ) = some (oO q, (I', τ'))) : CC (d + 1) 236 [.ref c, .int x1] (I, τ) = some (.inl (some (.int (wv [3, 2] q))), (I', τ')) := by
  rw [c_236, b_236_0]
  cases q with
  | inl v =>
    have hp : CC d 138 [.ref c, .int x1] (I, τ) = some (.inl (some (.int v)), (I', τ')) := hp
    simp only [kd_mk, hc, gd_true, hp, bdh_ret, vl_some, b_236_3, b_236_5, b_236_8]
    rfl
  | inr x =>
    have hp : CC d 138 [.ref c, .int x1] (I, τ) = some (.inr x, (I', τ')) := hp
    have hq : x ∈ [3, 2] := hq
    simp only [List.mem_cons, List.not_mem_nil, or_false] at hq
    rcases hq with rfl | rfl
    · simp only [kd_mk, hc, gd_true, hp, bdh_thr, h_236_2_3, b_236_3, b_236_5, b_236_8]
      rfl
    · simp only [kd_mk, hc, gd_true, hp, bdh_thr, h_236_2_2, b_236_3, b_236_5, b_236_8]
      rfl
end WW
