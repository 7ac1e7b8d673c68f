/-! areAlike, in -/
theorem c_alike {d a b : Nat} {I : qq_I} {τ : qq_R} (ha : tK τ a = (100, 130)) (hb : tK τ b = (100, 130)) (h : ∀ j, j < 130 → I a j = I b j) : CC d 243 [.ref a, .ref b] (I, τ) = some (.inl (some (.int (iN 1))), (I, τ)) := by
  have lp : ∀ m k, k + m = 130 → RR d 243 2 [some (.ref a), some (.ref b), some (.int (iN k))] [] (I, τ) = some (.inl (some (.int (iN 1))), (I, τ)) := by
    intro m
    induction m with
    | zero =>
      intro k hk
      have e : k = 130 := by omega
      subst e
      rw [b_243_2]
      simp only [kd_mk, ha]
      rw [gd_t (of_eq_true qq_at_100), if_neg (by decide), gd_t (of_eq_true nr_b1)]
    | succ m ih =>
      intro k hk
      rw [b_243_2]
      simp only [kd_mk, ha, hb]
      have hv : vp_in (iN k) 130 := of_eq_true (vp_iN (by omega) (by omega))
      have hlt : iN k < Int32.ofNat 130 := by rw [ofN, iN_lt (by omega) (by omega)]; omega
      rw [gd_t (of_eq_true qq_at_100), if_pos hlt, gd_t ⟨⟨trivial, hv⟩, trivial, hv⟩, rd_I_mk, rd_I_mk, iN_n (by omega), if_pos (h k (by omega)), iN_add]
      exact ih (k + 1) (by omega)
  rw [c_243, b_243_0]
  exact lp 130 0 rfl
theorem and_max (y : Int32) : ∃ w, w < 2147483648 ∧ y &&& iN 2147483647 = iN w := by
  have e : y = iN y.toBitVec.toNat := by
    apply Int32.toBitVec_inj.1
    show y.toBitVec = BitVec.ofNat 32 y.toBitVec.toNat
    rw [BitVec.ofNat_toNat, BitVec.setWidth_eq]
  refine ⟨y.toBitVec.toNat &&& 2147483647, Nat.lt_succ_of_le Nat.and_le_right, ?_⟩
  conv => lhs; rw [e]
  exact iN_and _ _
theorem iN_rem {w m : Nat} (hw : w < 2147483648) (hm0 : 0 < m) (hm : m < 2147483648) : iN w - iN w / iN m * iN m = iN (w % m) := by
  have h1 : w / m * m ≤ w := Nat.div_mul_le_self _ _
  rw [iN_div hw hm, iN_mul, iN_sub h1]
  congr 1
  have := Nat.div_add_mod w m
  rw [Nat.mul_comm] at this
  omega
theorem c_in {d L t m : Nat} {I : qq_I} {τ : qq_R} (h1 : tK τ 1 = (100, L)) (hL : L ≤ 260) (ht : t < 100000) (hm0 : 0 < m) (hm : m < 100000) : ∃ r, r < m ∧ CC (d + 1) 237 [.ref 1, .int (iN t), .int (iN m)] (I, τ) = some (.inl (some (.int (iN r))), (I, τ)) := by
  obtain ⟨y, hy⟩ : ∃ y, CC d 214 [.ref 1, .int (iN t)] (I, τ) = some (.inl (some (.int y)), (I, τ)) := by
    rw [c_214, b_214_0]
    simp only [kd_mk, h1]
    rw [gd_t (of_eq_true qq_at_100)]
    by_cases hlt : iN t < Int32.ofNat L
    · have ht2 : t < L := by rw [ofN, iN_lt (by omega) (by omega)] at hlt; exact hlt
      rw [if_pos hlt, gd_t ⟨trivial, of_eq_true (vp_iN ht2 (by omega))⟩, b_214_10]
      exact ⟨_, rfl⟩
    · rw [if_neg hlt, b_214_10]
      exact ⟨_, rfl⟩
  obtain ⟨w, hw, e⟩ := and_max y
  refine ⟨w % m, Nat.mod_lt _ hm0, ?_⟩
  have hz : ¬ iN m = 0 := by
    have : ¬ iN m = iN 0 := by rw [iN_eq (by omega) (by omega)]; omega
    exact this
  rw [c_237, b_237_0, hy, bd_ret, vl_some, b_237_3, gd_t hz, e, iN_rem hw hm0 (by omega)]
section LI
variable {d B n : Nat} {C C' : sC} {I : qq_I} {τ : qq_R} {E : List (Nat × (Nat → Int32))}
theorem L_alike {a b : Nat} {f : Nat → Int32} (h : LV E B n C I τ) (ha : (a, f) ∈ E) (hb : (b, f) ∈ E) : LC d 243 [.ref a, .ref b] I τ (some (.int (iN 1))) (LV E B n C) := by
  obtain ⟨k1, f1⟩ := h.2.2.2.2.1 _ ha
  obtain ⟨k2, f2⟩ := h.2.2.2.2.1 _ hb
  exact ⟨I, τ, c_alike k1 k2 (fun j hj => (f1 j hj).trans (f2 j hj).symm), h⟩
theorem L_in (h : LV E B n C I τ) {t m : Nat} (ht : t < 100000) (hm0 : 0 < m) (hm : m < 100000) : ∃ r, r < m ∧ LC (d + 1) 237 [.ref 1, .int (iN t), .int (iN m)] I τ (some (.int (iN r))) (LV E B n C) := by
  obtain ⟨k1, k2⟩ := h.2.2.1
  obtain ⟨r, h1, h2⟩ := c_in (d := d) (L := (tK τ 1).2) (I := I) (τ := τ) (t := t) (m := m) (Prod.ext k1 rfl) k2 ht hm0 hm
  exact ⟨r, h1, I, τ, h2, h⟩
end LI
/-! the calls that change: what the law must know of them -/
/-- v: the wrapper's answer -/
def AC (C C' : sC) (v : Int32) : Prop := (g_T C = [] → g_T C' = []) ∧ p_np (s_P (g_S C)) ≤ p_np (s_P (g_S C')) ∧ ((∃ k, k < 4 ∧ v = er k ∧ g_S C' = g_S C) ∨ (∃ k, k ≤ 900000 ∧ v = iN k ∧ g_H C' = hiA (g_H C) (g_S C))) ∧ g_Z C' = g_Z C
def mq (g : Nat) (r : Int32) : qR := if g = 45 then .inl r else .inr (ecx g)
theorem mO_mq (g : Nat) (r : Int32) : mO g r = oO (mq g r) := by
  unfold mO mq
  split <;> rfl
theorem qin_mq {g : Nat} {r : Int32} {l : List Nat} (h : g = 45 ∨ ecx g ∈ l) : qin l (mq g r) := by
  unfold mq
  split
  · trivial
  · rename_i q
    exact h.resolve_left q
theorem AC_of {C : sC} {S' : sS} {g : Nat} {r : Int32} {l : List Nat} (hl : l.length ≤ 4) (hg : g = 45 ∨ ecx g ∈ l) (hr : g = 45 → ∃ k, k ≤ 900000 ∧ r = iN k) (hn : g = 45 → p_np (s_P (g_S C)) ≤ p_np (s_P S')) : AC C (mS g C S') (wv l (mq g r)) := by
  unfold mS mq
  by_cases h : g = 45
  · rw [if_pos h, if_pos h]
    obtain ⟨k, h1, h2⟩ := hr h
    exact ⟨fun z => z, hn h, Or.inr ⟨k, h1, h2, rfl⟩, rfl⟩
  · rw [if_neg h, if_neg h]
    have hm := hg.resolve_left h
    exact ⟨fun z => z, Nat.le_refl _, Or.inl ⟨l.idxOf (ecx g), Nat.lt_of_lt_of_le (List.idxOf_lt_length_of_mem hm) hl, rfl, rfl⟩, rfl⟩
section LM
variable {d D M W B n : Nat} {C : sC} {I : qq_I} {τ : qq_R} {E : List (Nat × (Nat → Int32))} {av : List Value}
theorem L_mut {g : Nat} {r : Int32} {S' : sS} {l : List Nat} (h : LV E B n C I τ) (hp : ∃ I' τ', CC D M (.ref 70 :: av) (I, τ) = some (mO g r, (I', τ')) ∧ PC I τ 70 308 (B + 660) I' τ' (mS g C S'))
    (hg : g = 45 ∨ ecx g ∈ l) (hl : l.length ≤ 4) (hw : qin l (mq g r) → tK τ 70 = (12, 0) → ∀ I' τ', CC D M (.ref 70 :: av) (I, τ) = some (oO (mq g r), (I', τ')) → CC (D + 1) W (.ref 70 :: av) (I, τ) = some (.inl (some (.int (wv l (mq g r)))), (I', τ'))) (hav : ∀ v ∈ av, ∃ x, v = .int x)
    (hr : g = 45 → ∃ k, k ≤ 900000 ∧ r = iN k) (hn : g = 45 → p_np (s_P (g_S C)) ≤ p_np (s_P S')) (hi : g = 45 → iS (B + 660) S') :
    ∃ v C', AC C C' v ∧ LC (D + 1) W (.ref 70 :: av) I τ (some (.int v)) (LV E (B + 660) (n + 1) C') := by
  refine ⟨_, mS g C S', AC_of (r := r) hl hg hr hn, L_do (q := mq g r) h ?_ (hw (qin_mq hg) (k70' h)) hav ?_⟩
  · obtain ⟨I', τ', h1, h2⟩ := hp
    exact ⟨I', τ', by rw [← mO_mq]; exact h1, h2⟩
  · unfold mS
    by_cases q : g = 45
    · rw [if_pos q]; exact hi q
    · rw [if_neg q]; exact iS_up (LV_i h) (Nat.le_add_right _ _)
theorem mvP_le {U : sU} {P : sP} : ∀ r, (mvP U r P).2 ≤ r := by
  intro r
  induction r with
  | zero => exact Nat.le_refl _
  | succ r ih =>
    unfold mvP
    dsimp only
    split
    · omega
    · split
      · show (mvP U r P).2 + 1 ≤ r + 1
        omega
      · omega
theorem mvP_nsx {U : sU} {P : sP} : ∀ r, p_ns (mvP U r P).1 = p_ns P := by
  intro r
  induction r with
  | zero => rfl
  | succ r ih =>
    unfold mvP
    dsimp only
    split
    · exact ih
    · split
      · exact ih
      · exact ih
theorem npN_le {S : sS} (h : p_ns (s_P S) ≤ 6) : ∀ n, (npN n S).2 ≤ 6 * n ∧ p_ns (s_P (npN n S).1) ≤ 6 := by
  intro n
  induction n with
  | zero => exact ⟨Nat.le_refl _, h⟩
  | succ n ih =>
    obtain ⟨h1, h2⟩ := ih
    have e1 : (npN (n + 1) S).2 = (npN n S).2 + npM (npN n S).1 := rfl
    have e2 : p_ns (s_P (npN (n + 1) S).1) = p_ns (s_P (npN n S).1) := mvP_nsx (U := s_U (npL (npN n S).1)) (P := s_P (npN n S).1) (p_ns (s_P (npN n S).1))
    have e3 : npM (npN n S).1 ≤ p_ns (s_P (npN n S).1) := mvP_le (U := s_U (npL (npN n S).1)) (P := s_P (npN n S).1) (p_ns (s_P (npN n S).1))
    exact ⟨by omega, by omega⟩
theorem gl_ped {S : sS} : ft_ped S = 45 ∨ ecx (ft_ped S) ∈ [2] := by unfold ft_ped; (repeat' split) <;> first | exact Or.inl rfl | exact Or.inr (by decide)
theorem gl_arr {S : sS} {x y : Int32} : ft_arr S x y = 45 ∨ ecx (ft_arr S x y) ∈ [0] := by unfold ft_arr; (repeat' split) <;> first | exact Or.inl rfl | exact Or.inr (by decide)
theorem gl_sta {S : sS} {x y : Int32} : ft_sta S x y = 45 ∨ ecx (ft_sta S x y) ∈ [0, 1, 2] := by unfold ft_sta; (repeat' split) <;> first | exact Or.inl rfl | exact Or.inr (by decide)
theorem gl_hom {S : sS} {x y : Int32} : ft_hom S x y = 45 ∨ ecx (ft_hom S x y) ∈ [0] := by unfold ft_hom; (repeat' split) <;> first | exact Or.inl rfl | exact Or.inr (by decide)
theorem gl_arg {S : sS} {x n y : Int32} : ft_arg S x n y = 45 ∨ ft_arg S x n y = 105 ∨ ft_arg S x n y = 97 := by unfold ft_arg; (repeat' split) <;> first | exact Or.inl rfl | exact Or.inr (Or.inl rfl) | exact Or.inr (Or.inr rfl)
theorem gl_wri {S : sS} {x n y : Int32} : ft_wri S x n y = 45 ∨ ecx (ft_wri S x n y) ∈ [0, 1, 2] := by
  unfold ft_wri
  split
  · split
    · exact Or.inl rfl
    · exact Or.inr (by decide)
  · rcases gl_arg (S := S) (x := x) (n := n) (y := y) with h | h | h
    · exact Or.inl h
    · rw [h]; exact Or.inr (by decide)
    · rw [h]; exact Or.inr (by decide)
theorem gl_fol {S : sS} {x n y c : Int32} : ft_fol S x n y c = 45 ∨ ecx (ft_fol S x n y c) ∈ [0, 1, 3, 2] := by
  unfold ft_fol
  split
  · split
    · exact Or.inr (by decide)
    · split
      · exact Or.inl rfl
      · exact Or.inr (by decide)
  · rcases gl_arg (S := S) (x := x) (n := n) (y := y) with h | h | h
    · exact Or.inl h
    · rw [h]; exact Or.inr (by decide)
    · rw [h]; exact Or.inr (by decide)
theorem gl_blk {S : sS} {x y : Int32} : ft_blk S x y = 45 ∨ ecx (ft_blk S x y) ∈ [1, 2] := by unfold ft_blk; (repeat' split) <;> first | exact Or.inl rfl | exact Or.inr (by decide)
theorem gl_pay {S : sS} {x : Int32} : ft_pay S x = 45 ∨ ecx (ft_pay S x) ∈ [3, 2, 4] := by
  unfold ft_pay
  split
  · exact Or.inr (by decide)
  · (repeat' split) <;> first | exact Or.inl rfl | exact Or.inr (by decide)
theorem gl_hea {S : sS} {x : Int32} : ft_hea S x = 45 ∨ ecx (ft_hea S x) ∈ [3, 2] := by unfold ft_hea; (repeat' split) <;> first | exact Or.inl rfl | exact Or.inr (by decide)
theorem gl_nig {x : Int32} : ft_nig x = 45 ∨ ecx (ft_nig x) ∈ [1] := by unfold ft_nig; (repeat' split) <;> first | exact Or.inl rfl | exact Or.inr (by decide)
theorem if45 {p : Prop} [Decidable p] {a : Nat} (ha : a ≠ 45) (h : (if p then 45 else a) = 45) : p := by
  by_cases q : p
  · exact q
  · rw [if_neg q] at h; exact absurd h ha
theorem inN_tn {n : Nat} {x : Int32} (hn : n < 1000000) (h : inN n x = true) : tn x < n := by
  obtain ⟨k, h1, rfl⟩ := (inN_iff hn).mp h
  rw [tn_iN (by omega)]; exact h1
theorem L_215 (h : LV E B n C I τ) (hB : B + 1400 ≤ 900000) : ∃ v C', AC C C' v ∧ LC (d + 41) 215 [.ref 70] I τ (some (.int v)) (LV E (B + 660) (n + 1) C') := by
  have hw := LV_w h
  have h8 := hw.2.1.1
  exact L_mut h (p_addPedestal (d := d) h.1 (by omega)) gl_ped (by decide) (fun hq hk => w_215 hq hk) hav0 (fun _ => ⟨_, by omega, rfl⟩) (fun _ => Nat.le_succ _) (fun _ => iS_up (LV_i h) (Nat.le_add_right _ _))
theorem L_216 (h : LV E B n C I τ) (hB : B + 1400 ≤ 900000) (x y : Int32) : ∃ v C', AC C C' v ∧ LC (d + 41) 216 [.ref 70, .int x, .int y] I τ (some (.int v)) (LV E (B + 660) (n + 1) C') := by
  have hw := LV_w h
  have h8 := hw.2.1.1
  refine L_mut h (p_setArrow (d := d) h.1 (by omega) x y) gl_arr (by decide) (fun hq hk => w_216 x y hq hk) (hav1 (hav1 hav0)) (fun hf => ⟨p_ar (s_P (g_S C)) (tn x), ?_, rfl⟩) (fun _ => Nat.le_refl _) (fun _ => iS_up (LV_i h) (Nat.le_add_right _ _))
  have h1 := if45 (by decide) hf
  rw [Bool.and_eq_true] at h1
  have := hw.2.1.2.2.1 (tn x) (inN_tn (by omega) h1.1)
  omega
theorem L_217 (h : LV E B n C I τ) (hB : B + 1400 ≤ 900000) (x y : Int32) : ∃ v C', AC C C' v ∧ LC (d + 41) 217 [.ref 70, .int x, .int y] I τ (some (.int v)) (LV E (B + 660) (n + 1) C') := by
  have hw := LV_w h
  have h8 := hw.2.1.2.1
  exact L_mut h (p_addStatue (d := d) h.1 (by omega) x y) gl_sta (by decide) (fun hq hk => w_217 x y hq hk) (hav1 (hav1 hav0)) (fun hf => ⟨p_ns (s_P (g_S C)), by omega, rfl⟩) (fun _ => Nat.le_refl _) (fun _ => iS_up (LV_i h) (Nat.le_add_right _ _))
theorem L_218 (h : LV E B n C I τ) (hB : B + 1400 ≤ 900000) (x y : Int32) : ∃ v C', AC C C' v ∧ LC (d + 41) 218 [.ref 70, .int x, .int y] I τ (some (.int v)) (LV E (B + 660) (n + 1) C') := by
  have hw := LV_w h
  have h8 := hw.2.1.1
  have h6 := hw.2.1.2.1
  refine L_mut h (p_setHome (d := d) h.1 (by omega) x y) gl_hom (by decide) (fun hq hk => w_218 x y hq hk) (hav1 (hav1 hav0)) (fun hf => ⟨p_ho (s_P (g_S C)) (tn x), ?_, rfl⟩) (fun _ => Nat.le_refl _) (fun _ => iS_up (LV_i h) (Nat.le_add_right _ _))
  have h1 := if45 (by decide) hf
  rw [Bool.and_eq_true] at h1
  have := (hw.2.1.2.2.2.1 (tn x) (inN_tn (by omega) h1.1)).2.2.2
  omega
theorem L_219 (h : LV E B n C I τ) (hB : B + 1400 ≤ 900000) (x m y : Int32) : ∃ v C', AC C C' v ∧ LC (d + 41) 219 [.ref 70, .int x, .int m, .int y] I τ (some (.int v)) (LV E (B + 660) (n + 1) C') := by
  have hw := LV_w h
  have hu := hw.2.2.2.1
  exact L_mut h (p_issueWrit (d := d) h.1 (by omega) x m y) gl_wri (by decide) (fun hq hk => w_219 x m y hq hk) (hav1 (hav1 (hav1 hav0))) (fun hf => ⟨unx (s_U (g_S C)), by omega, rfl⟩) (fun _ => Nat.le_refl _) (fun hf => iS_up (iS_wri (LV_i h) hf) (Nat.le_add_right _ _))
theorem L_220 (h : LV E B n C I τ) (hB : B + 1400 ≤ 900000) (x m y z : Int32) : ∃ v C', AC C C' v ∧ LC (d + 41) 220 [.ref 70, .int x, .int m, .int y, .int z] I τ (some (.int v)) (LV E (B + 660) (n + 1) C') := by
  have hw := LV_w h
  have hu := hw.2.2.2.1
  exact L_mut h (p_issueFollower (d := d) h.1 (by omega) x m y z) gl_fol (by decide) (fun hq hk => w_220 x m y z hq hk) (hav1 (hav1 (hav1 (hav1 hav0)))) (fun hf => ⟨unx (s_U (g_S C)), by omega, rfl⟩) (fun _ => Nat.le_refl _) (fun hf => iS_up (iS_fol (LV_i h) hf) (Nat.le_add_right _ _))
theorem L_221 (h : LV E B n C I τ) (hB : B + 1400 ≤ 900000) (x y : Int32) : ∃ v C', AC C C' v ∧ LC (d + 41) 221 [.ref 70, .int x, .int y] I τ (some (.int v)) (LV E (B + 660) (n + 1) C') := by
  have hw := LV_w h
  refine L_mut h (p_addBlocks (d := d) h.1 (by omega) x y) gl_blk (by decide) (fun hq hk => w_221 x y hq hk) (hav1 (hav1 hav0)) (fun hf => ⟨m_bl (s_M (g_S C)) (tn x) + tn y, ?_, rfl⟩) (fun _ => Nat.le_refl _) (fun hf => iS_up (LV_i h) (Nat.le_add_right _ _))
  unfold ft_blk at hf
  split at hf
  · rename_i q
    rw [Bool.and_eq_true] at q
    have h1 := inB_tn (by omega) (by omega) q.1
    have h2 := inB_tn (by omega) (by omega) q.2
    have := hw.2.2.2.2.2.2.1 (tn x) (by omega)
    omega
  · cases hf
theorem L_222 (h : LV E B n C I τ) (hB : B + 1400 ≤ 900000) (x : Int32) : ∃ v C', AC C C' v ∧ LC (d + 41) 222 [.ref 70, .int x] I τ (some (.int v)) (LV E (B + 660) (n + 1) C') := by
  refine L_mut h (p_payBail (d := d) h.1 (by omega) x) gl_pay (by decide) (fun hq hk => w_222 x hq hk) (hav1 hav0) (fun hf => ?_) (fun _ => Nat.le_of_eq np_opay.symm) (fun hf => iS_up (iS_opay (LV_i h)) (by omega))
  unfold o_pay
  cases fiX (s_U (g_S C)) x with
  | none => exact ⟨0, by omega, rfl⟩
  | some k => exact ⟨fw (m_bl (s_M (g_S C))) 20 (w_ba (ug (s_U (g_S C)) k)), Nat.le_trans (fw_le _ _) (by omega), rfl⟩
theorem L_223 (h : LV E B n C I τ) (hB : B + 1400 ≤ 900000) (x : Int32) : ∃ v C', AC C C' v ∧ LC (d + 41) 223 [.ref 70, .int x] I τ (some (.int v)) (LV E (B + 660) (n + 1) C') := by
  have hw := LV_w h
  refine L_mut h (p_passNights (d := d) h.1 (by omega) x) gl_nig (by decide) (fun hq hk => w_223 x hq hk) (hav1 hav0) (fun hf => ⟨(npN (tn x) (g_S C)).2, ?_, rfl⟩) (fun _ => Nat.le_of_eq (np_npN _).symm) (fun hf => iS_up (iS_npN (LV_i h) _) (Nat.le_add_right _ _))
  have h1 := inB_tn (by omega) (by omega) (if45 (by decide) hf)
  have := (npN_le hw.2.1.2.1 (tn x)).1
  omega
theorem L_236 (h : LV E B n C I τ) (hB : B + 1400 ≤ 900000) (x : Int32) : ∃ v C', AC C C' v ∧ LC (d + 41) 236 [.ref 70, .int x] I τ (some (.int v)) (LV E (B + 660) (n + 1) C') := by
  refine L_mut h (p_hear (d := d) h.1 (by omega) x) gl_hea (by decide) (fun hq hk => w_236 x hq hk) (hav1 hav0) (fun hf => ?_) (fun _ => Nat.le_of_eq np_ohea.symm) (fun hf => iS_up (iS_ohea (LV_i h)) (Nat.le_add_right _ _))
  unfold o_hea
  cases fiX (s_U (g_S C)) x with
  | none => exact ⟨0, by omega, rfl⟩
  | some k =>
    refine ⟨heC (g_S C) k, ?_, rfl⟩
    unfold heC
    split <;> omega
theorem rdS_len (T : List Nat) : ∀ m pos cs, (rdS T m pos cs).2.2.length ≤ cs.length + m := by
  intro m
  induction m with
  | zero => intro pos cs; exact Nat.le_refl _
  | succ m ih =>
    intro pos cs
    unfold rdS
    split
    · show cs.length ≤ cs.length + (m + 1)
      omega
    · split
      · show (cs ++ [_]).length ≤ cs.length + (m + 1)
        rw [List.length_append, List.length_singleton]; omega
      · split
        · have := ih ((rdF T (frm (lk T pos 9).1) pos []).2.1 + 1) (cs ++ [((lk T pos 9).1, (rdF T (frm (lk T pos 9).1) pos []).2.2)])
          rw [List.length_append, List.length_singleton] at this
          omega
        · show (cs ++ [_]).length ≤ cs.length + (m + 1)
          rw [List.length_append, List.length_singleton]; omega
theorem L_233 (h : LV E B n C I τ) (hB : B + 1400 ≤ 900000) : ∃ v C', (g_T C' = [] ∧ p_np (s_P (g_S C)) ≤ p_np (s_P (g_S C')) ∧ ((∃ k, k < 4 ∧ v = er k ∧ g_S C' = g_S C) ∨ (∃ k, k ≤ 900000 ∧ v = iN k ∧ g_H C' = hiA (g_H C) (g_S C))) ∧ g_Z C' = g_Z C) ∧ LC (d + 41) 233 [.ref 70] I τ (some (.int v)) (LV E (B + 660) (n + 1) C') := by
  have hp := p_runScript (d := d) h.1 h.2.1 hB
  have hlen := rdS_len (g_T C) 11 0 []
  have hi := LV_i h
  have key : ∀ q C', q_run C = q → t_run C = C' → qin [1, 2] q → iS (B + 660) (g_S C') → LC (d + 41) 233 [.ref 70] I τ (some (.int (wv [1, 2] q))) (LV E (B + 660) (n + 1) C') := by
    intro q C' h1 h2 h3 h4
    rw [h1, h2] at hp
    exact L_do h hp (w_233 h3 (k70' h)) hav0 h4
  unfold q_run t_run at key
  by_cases hr : (rdS (g_T C) 11 0 []).1 = true
  · rw [if_pos hr, if_pos hr] at key
    cases hc : ruS (rdS (g_T C) 11 0 []).2.2 0 (g_S C) with
    | inl S' =>
      rw [hc] at key
      obtain ⟨r1, r2⟩ := ruS_ok _ _ _ _ _ hi hc
      have hlen' : (rdS (g_T C) 11 0 []).2.2.length ≤ 11 := by
        have : ([] : List (Nat × List Nat)).length = 0 := rfl
        omega
      exact ⟨_, (S', hiA (g_H C) (g_S C), g_Z C, [], g_O C, g_E C, g_F C, g_G C), ⟨rfl, r2, Or.inr ⟨_, by omega, rfl, rfl⟩, rfl⟩, key (.inl _) _ rfl rfl trivial (iS_up r1 (by omega))⟩
    | inr q =>
      obtain ⟨j, g⟩ := q
      rw [hc] at key
      exact ⟨_, (g_S C, g_H C, g_Z C, [], g_O C, g_E C, j + 1, g), ⟨rfl, Nat.le_refl _, Or.inl ⟨1, by omega, rfl, rfl⟩, rfl⟩, key (.inr 2) _ rfl rfl (show (2 : Nat) ∈ [1, 2] by decide) (iS_up hi (Nat.le_add_right _ _))⟩
  · rw [if_neg hr, if_neg hr] at key
    exact ⟨_, (g_S C, g_H C, g_Z C, [], g_O C, (rdS (g_T C) 11 0 []).2.1 + 1, g_F C, g_G C), ⟨rfl, Nat.le_refl _, Or.inl ⟨0, by omega, rfl, rfl⟩, rfl⟩, key (.inr 1) _ rfl rfl (show (1 : Nat) ∈ [1, 2] by decide) (iS_up hi (Nat.le_add_right _ _))⟩
end LM
