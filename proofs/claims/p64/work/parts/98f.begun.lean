/-! THE LAW: begun -/
/-- a sum of m answers -/
def sb (m : Nat) (x : Int32) : Prop := -(900004 * (m : Int)) ≤ x.toInt ∧ x.toInt ≤ 900004 * (m : Int)
theorem zb_0 : sb 0 (iN 0) := by unfold sb; decide
theorem zb_1 : sb 1 (iN 0) := by unfold sb; decide
theorem zb_add {m k : Nat} {x y : Int32} (hx : sb m x) (hy : sb k y) (h : m + k ≤ 90) : sb (m + k) (x + y) := by
  obtain ⟨a1, a2⟩ := hx
  obtain ⟨b1, b2⟩ := hy
  unfold sb
  rw [Int32.toInt_add, Int.bmod_eq_of_le (by omega) (by omega)]
  omega
theorem zb_up {m k : Nat} {x : Int32} (hx : sb m x) (h : m ≤ k) : sb k x := by
  obtain ⟨a1, a2⟩ := hx
  exact ⟨by omega, by omega⟩
theorem er_toInt {k : Nat} (h : k < 4) : (er k).toInt = -900001 - (k : Int) := by
  have : k = 0 ∨ k = 1 ∨ k = 2 ∨ k = 3 := by omega
  rcases this with rfl | rfl | rfl | rfl <;> decide +kernel
theorem zb_AC {C C' : sC} {v : Int32} (h : AC C C' v) : sb 1 v := by
  unfold sb
  rcases h.2.2.1 with ⟨k, h1, rfl, -⟩ | ⟨k, h1, rfl, -⟩
  · rw [er_toInt h1]; omega
  · rw [iN_toInt (by omega)]; omega
theorem zb_nlt {m : Nat} {x : Int32} (h : sb m x) (hm : m ≤ 90) : ¬ x < iN 4204967296 := by
  rw [Int32.lt_iff_toInt_lt, show (iN 4204967296).toInt = -90000000 by decide +kernel]
  obtain ⟨a1, a2⟩ := h
  omega
theorem zb_gt {m : Nat} {x : Int32} (h : sb m x) (hm : m ≤ 90) : iN 4204967296 < x := by
  rw [Int32.lt_iff_toInt_lt, show (iN 4204967296).toInt = -90000000 by decide +kernel]
  obtain ⟨a1, a2⟩ := h
  omega
/-- within begun, N answers on -/
def BS (N p : Nat) (x : Int32) (I : qq_I) (τ : qq_R) : Prop := N ≤ 60 ∧ sb N x ∧ ∃ C, LV [] (660 * N) N C I τ ∧ g_T C = [] ∧ p ≤ p_np (s_P (g_S C))
section BE
variable {d D N M p q m : Nat} {x y v : Int32} {C C' : sC} {I : qq_I} {τ : qq_R} {av : List Value} {P : qq_O → qq_I → qq_R → Prop} {k : Option Value → qq_S → Option (qq_O × qq_S)}
theorem BS_up (h : BS N p x I τ) (hN : N ≤ M) (hM : M ≤ 60) : BS M p x I τ := by
  obtain ⟨h1, h2, C, h3, h4, h5⟩ := h
  exact ⟨hM, zb_up h2 hN, C, LV_bu (LV_up h3 hN) (Nat.mul_le_mul_left _ hN) (by omega), h4, h5⟩
theorem BS_p (h : BS N p x I τ) (hq : q ≤ p) : BS N q x I τ := by
  obtain ⟨h1, h2, C, h3, h4, h5⟩ := h
  exact ⟨h1, h2, C, h3, h4, by omega⟩
/-- a question -/
theorem BS_in (h : BS N p x I τ) {t m : Nat} (ht : t < 100000) (hm0 : 0 < m) (hm : m < 100000) : ∃ r, r < m ∧ LC (d + 43) 237 [.ref 1, .int (iN t), .int (iN m)] I τ (some (.int (iN r))) (BS N p x) := by
  obtain ⟨h1, h2, C, h3, h4, h5⟩ := h
  obtain ⟨r, hr, hC⟩ := L_in (d := d + 42) h3 ht hm0 hm
  exact ⟨r, hr, LC_mono hC (fun I τ hL => ⟨h1, h2, C, hL, h4, h5⟩)⟩
/-- a deed, its answer added -/
theorem BS_do {W D : Nat} (h : BS N p x I τ) (hN : N + 1 ≤ 60) (hx : ∀ C, LV [] (660 * N) N C I τ → 660 * N + 1400 ≤ 900000 → ∃ v C', AC C C' v ∧ LC D W av I τ (some (.int v)) (LV [] (660 * N + 660) (N + 1) C')) : ∃ v, sb 1 v ∧ LC D W av I τ (some (.int v)) (BS (N + 1) p (x + v)) := by
  obtain ⟨h1, h2, C, h3, h4, h5⟩ := h
  obtain ⟨v, C', hA, hC⟩ := hx C h3 (by omega)
  exact ⟨v, zb_AC hA, LC_mono hC (fun I τ hL => ⟨hN, zb_add h2 (zb_AC hA) (by omega), C', hL, hA.1 h4, Nat.le_trans h5 hA.2.1⟩)⟩
theorem L_215p {n B : Nat} {E : List (Nat × (Nat → Int32))} (h : LV E B n C I τ) (hB : B + 1400 ≤ 900000) (hp : p ≤ p_np (s_P (g_S C))) (hp8 : p < 8) : ∃ v C', AC C C' v ∧ p + 1 ≤ p_np (s_P (g_S C')) ∧ LC (d + 41) 215 [.ref 70] I τ (some (.int v)) (LV E (B + 660) (n + 1) C') := by
  have hw := LV_w h
  have h8 := hw.2.1.1
  have hpp := p_addPedestal (d := d) h.1 (by omega)
  have e : p + 1 ≤ p_np (s_P (g_S (mS (ft_ped (g_S C)) C (o_ped (g_S C)).2))) := by
    unfold mS ft_ped
    by_cases q : p_np (s_P (g_S C)) < 8
    · rw [if_pos q, if_pos rfl]
      show p + 1 ≤ p_np (s_P (g_S C)) + 1
      omega
    · rw [if_neg q, if_neg (by decide)]
      omega
  refine ⟨_, mS (ft_ped (g_S C)) C (o_ped (g_S C)).2, AC_of (r := (o_ped (g_S C)).1) (by decide) gl_ped (fun _ => ⟨_, by omega, rfl⟩) (fun _ => Nat.le_succ _), e, L_do (q := mq (ft_ped (g_S C)) (o_ped (g_S C)).1) h ?_ (w_215 (qin_mq gl_ped) (k70' h)) hav0 ?_⟩
  · obtain ⟨I', τ', h1, h2⟩ := hpp
    exact ⟨I', τ', by rw [← mO_mq]; exact h1, h2⟩
  · unfold mS
    by_cases q : ft_ped (g_S C) = 45
    · rw [if_pos q]; exact iS_up (iS_P (P := s_P (o_ped (g_S C)).2) (LV_i h)) (Nat.le_add_right _ _)
    · rw [if_neg q]; exact iS_up (LV_i h) (Nat.le_add_right _ _)
theorem BS_ped (h : BS N p x I τ) (hN : N + 1 ≤ 60) (hp8 : p < 8) : ∃ v, sb 1 v ∧ LC (d + 43) 215 [.ref 70] I τ (some (.int v)) (BS (N + 1) (p + 1) (x + v)) := by
  obtain ⟨h1, h2, C, h3, h4, h5⟩ := h
  obtain ⟨v, C', hA, hn, hC⟩ := L_215p (d := d + 2) h3 (by omega) h5 hp8
  exact ⟨v, zb_AC hA, LC_mono hC (fun I τ hL => ⟨hN, zb_add h2 (zb_AC hA) (by omega), C', hL, hA.1 h4, hn⟩)⟩
theorem bl_15 (n0 : Nat) {P : qq_O → qq_I → qq_R → Prop} (hp : p ≤ 8) (hp3 : 3 ≤ p) (hn0 : n0 + p ≤ 60) (K : ∀ x I τ, BS (n0 + p) p x I τ → RP (RR (d + 44) 239 27 [some (.ref 1), some (.ref 70), some (.int x), some (.int (iN p)), some (.int (iN 0))] [] (I, τ)) P) :
    ∀ j k x I τ, k + j = p → BS (n0 + k) k x I τ → RP (RR (d + 44) 239 15 [some (.ref 1), some (.ref 70), some (.int x), some (.int (iN p)), some (.int (iN k))] [] (I, τ)) P := by
  intro j
  induction j with
  | zero =>
    intro k x I τ hk h
    have e : k = p := by omega
    subst e
    rw [b_239_15]
    refine RP_n (by rw [iN_lt (by omega) (by omega)]; omega) ?_
    exact K _ _ _ h
  | succ j ih =>
    intro k x I τ hk h
    rw [b_239_15]
    refine RP_y (by rw [iN_lt (by omega) (by omega)]; omega) ?_
    obtain ⟨v, hv, hC⟩ := BS_ped (d := d) h (by omega) (by omega)
    refine LC_bd hC (fun I τ h => ?_)
    rw [vl_some, b_239_21, iN_add]
    exact ih (k + 1) _ _ _ (by omega) h
theorem bl_27 (n0 : Nat) {P : qq_O → qq_I → qq_R → Prop} (hp : p ≤ 8) (hp3 : 3 ≤ p) (hn0 : n0 + p ≤ 60) (K : ∀ x I τ, BS (n0 + p) p x I τ → RP (RR (d + 44) 239 46 [some (.ref 1), some (.ref 70), some (.int x), some (.int (iN p)), some (.int (iN 0))] [] (I, τ)) P) :
    ∀ j k x I τ, k + j = p → BS (n0 + k) p x I τ → RP (RR (d + 44) 239 27 [some (.ref 1), some (.ref 70), some (.int x), some (.int (iN p)), some (.int (iN k))] [] (I, τ)) P := by
  intro j
  induction j with
  | zero =>
    intro k x I τ hk h
    have e : k = p := by omega
    subst e
    rw [b_239_27]
    refine RP_n (by rw [iN_lt (by omega) (by omega)]; omega) ?_
    exact K _ _ _ h
  | succ j ih =>
    intro k x I τ hk h
    rw [b_239_27]
    refine RP_y (by rw [iN_lt (by omega) (by omega)]; omega) ?_
    rw [iN_add]
    obtain ⟨r, hr, hC⟩ := BS_in (d := d) h (t := 1 + k) (m := p) (by omega) (by omega) (by omega)
    refine LC_bd hC (fun I τ h => ?_)
    rw [vl_some, b_239_39]
    obtain ⟨v, hv, hC⟩ := BS_do h (by omega) (fun C hL hB => L_216 (d := d + 2) hL hB (iN k) (iN r))
    refine LC_bd hC (fun I τ h => ?_)
    rw [vl_some, b_239_40, iN_add]
    exact ih (k + 1) _ _ _ (by omega) h
theorem bl_46 (n0 : Nat) {P : qq_O → qq_I → qq_R → Prop} (hp : p ≤ 8) (hp3 : 3 ≤ p) (hn0 : n0 + 7 ≤ 60) (K : ∀ x I τ, BS (n0 + 7) p x I τ → RP (RR (d + 44) 239 77 [some (.ref 1), some (.ref 70), some (.int x), some (.int (iN p)), some (.int (iN 0))] [] (I, τ)) P) :
    ∀ j k x I τ, k + j = 7 → BS (n0 + k) p x I τ → RP (RR (d + 44) 239 46 [some (.ref 1), some (.ref 70), some (.int x), some (.int (iN p)), some (.int (iN k))] [] (I, τ)) P := by
  intro j
  induction j with
  | zero =>
    intro k x I τ hk h
    obtain ⟨r, hr, hC⟩ := BS_in (d := d) h (t := 10) (m := 5) (by omega) (by omega) (by omega)
    rw [b_239_46]
    refine LC_bd hC (fun I τ h => ?_)
    rw [vl_some, b_239_52, iN_add]
    refine RP_n (by rw [iN_lt (by omega) (by omega)]; omega) ?_
    exact K _ _ _ (BS_up h (by omega) hn0)
  | succ j ih =>
    intro k x I τ hk h
    obtain ⟨r, hr, hC⟩ := BS_in (d := d) h (t := 10) (m := 5) (by omega) (by omega) (by omega)
    rw [b_239_46]
    refine LC_bd hC (fun I τ h => ?_)
    rw [vl_some, b_239_52, iN_add]
    refine RP_if (fun _ => ?_) (fun _ => K _ _ _ (BS_up h (by omega) hn0))
    rw [iN_add]
    obtain ⟨a, ha, hC⟩ := BS_in (d := d) h (t := 11 + k) (m := p) (by omega) (by omega) (by omega)
    refine LC_bd hC (fun I τ h => ?_)
    rw [vl_some, b_239_62]
    rw [iN_add]
    obtain ⟨b, hb, hC⟩ := BS_in (d := d) h (t := 18 + k) (m := 30) (by omega) (by omega) (by omega)
    refine LC_bd hC (fun I τ h => ?_)
    rw [vl_some, b_239_69]
    obtain ⟨v, hv, hC⟩ := BS_do h (by omega) (fun C hL hB => L_217 (d := d + 2) hL hB (iN a) (iN 1 + iN b))
    refine LC_bd hC (fun I τ h => ?_)
    rw [vl_some, b_239_71, iN_add]
    exact ih (k + 1) _ _ _ (by omega) h
theorem bl_93 (n0 : Nat) {P : qq_O → qq_I → qq_R → Prop} {k : Nat} (hp : p ≤ 8) (hm0 : 0 < m) (hm : m < 100) (hN : N + 1 ≤ 60) (hk : k < 5) (K : ∀ x I τ, BS (N + 1) p x I τ → RP (RR (d + 44) 239 77 [some (.ref 1), some (.ref 70), some (.int x), some (.int (iN p)), some (.int (iN (k + 1)))] [] (I, τ)) P) (h : BS N p x I τ) :
    RP (RR (d + 44) 239 93 [some (.ref 1), some (.ref 70), some (.int x), some (.int (iN p)), some (.int (iN k))] [.int (iN m), .int (iN (25 + k)), .ref 1, .int (iN 1), .ref 70, .int x] (I, τ)) P := by
    rw [b_239_93]
    obtain ⟨a, ha, hC⟩ := BS_in (d := d) h (t := 25 + k) (m := m) (by omega) (by omega) (by omega)
    refine LC_bd hC (fun I τ h => ?_)
    rw [vl_some, b_239_94]
    rw [iN_add]
    obtain ⟨b, hb, hC⟩ := BS_in (d := d) h (t := 30 + k) (m := 9) (by omega) (by omega) (by omega)
    refine LC_bd hC (fun I τ h => ?_)
    rw [vl_some, b_239_102]
    obtain ⟨v, hv, hC⟩ := BS_do h (by omega) (fun C hL hB => L_221 (d := d + 2) hL hB (iN 1 + iN a) (iN 1 + iN b))
    refine LC_bd hC (fun I τ h => ?_)
    rw [vl_some, b_239_104, iN_add]
    exact K _ _ _ h
theorem bl_77 (n0 : Nat) {P : qq_O → qq_I → qq_R → Prop} (hp : p ≤ 8) (hp3 : 3 ≤ p) (hn0 : n0 + 5 ≤ 60) (K : ∀ x I τ, BS (n0 + 5) p x I τ → RP (RR (d + 44) 239 110 [some (.ref 1), some (.ref 70), some (.int x), some (.int (iN p)), some (.int (iN 0))] [] (I, τ)) P) :
    ∀ j k x I τ, k + j = 5 → BS (n0 + k) p x I τ → RP (RR (d + 44) 239 77 [some (.ref 1), some (.ref 70), some (.int x), some (.int (iN p)), some (.int (iN k))] [] (I, τ)) P := by
  intro j
  induction j with
  | zero =>
    intro k x I τ hk h
    have e : k = 5 := by omega
    subst e
    rw [b_239_77]
    refine RP_n (by rw [iN_lt (by omega) (by omega)]; omega) ?_
    exact K _ _ _ h
  | succ j ih =>
    intro k x I τ hk h
    rw [b_239_77]
    refine RP_y (by rw [iN_lt (by omega) (by omega)]; omega) ?_
    rw [iN_add]
    refine RP_if (fun _ => ?_) (fun _ => ?_)
    · exact bl_93 (N := n0 + k) 0 (m := 5) hp (by omega) (by omega) (by omega) (by omega) (fun x I τ h => ih (k + 1) _ _ _ (by omega) h) h
    · exact bl_93 (N := n0 + k) 0 (m := 20) hp (by omega) (by omega) (by omega) (by omega) (fun x I τ h => ih (k + 1) _ _ _ (by omega) h) h
theorem bl_110 (n0 : Nat) {P : qq_O → qq_I → qq_R → Prop} (hp : p ≤ 8) (hp3 : 3 ≤ p) (hn0 : n0 + 3 ≤ 60) (K : ∀ x I τ, BS (n0 + 3) p x I τ → RP (RR (d + 44) 239 142 [some (.ref 1), some (.ref 70), some (.int x), some (.int (iN p)), some (.int (iN 0))] [] (I, τ)) P) :
    ∀ j k x I τ, k + j = 3 → BS (n0 + k) p x I τ → RP (RR (d + 44) 239 110 [some (.ref 1), some (.ref 70), some (.int x), some (.int (iN p)), some (.int (iN k))] [] (I, τ)) P := by
  intro j
  induction j with
  | zero =>
    intro k x I τ hk h
    have e : k = 3 := by omega
    subst e
    rw [b_239_110]
    refine RP_n (by rw [iN_lt (by omega) (by omega)]; omega) ?_
    exact K _ _ _ h
  | succ j ih =>
    intro k x I τ hk h
    rw [b_239_110]
    refine RP_y (by rw [iN_lt (by omega) (by omega)]; omega) ?_
    rw [iN_add]
    obtain ⟨a, ha, hC⟩ := BS_in (d := d) h (t := 35 + k) (m := 3) (by omega) (by omega) (by omega)
    refine LC_bd hC (fun I τ h => ?_)
    rw [vl_some, b_239_121]
    rw [iN_add]
    obtain ⟨b, hb, hC⟩ := BS_in (d := d) h (t := 38 + k) (m := 8) (by omega) (by omega) (by omega)
    refine LC_bd hC (fun I τ h => ?_)
    rw [vl_some, b_239_127]
    rw [iN_add]
    obtain ⟨c, hc, hC⟩ := BS_in (d := d) h (t := 41 + k) (m := 60) (by omega) (by omega) (by omega)
    refine LC_bd hC (fun I τ h => ?_)
    rw [vl_some, b_239_134]
    obtain ⟨v, hv, hC⟩ := BS_do h (by omega) (fun C hL hB => L_219 (d := d + 2) hL hB (iN a) (iN b) (iN 1 + iN c))
    refine LC_bd hC (fun I τ h => ?_)
    rw [vl_some, b_239_136, iN_add]
    exact ih (k + 1) _ _ _ (by omega) h
def BE (P : qq_O → qq_I → qq_R → Prop) (N p : Nat) : Prop := ∀ o C I τ, o = .inl (some (.ref 70)) → LV [] (660 * N) N C I τ → g_T C = [] → p ≤ p_np (s_P (g_S C)) → P o I τ
theorem bl_202 {P : qq_O → qq_I → qq_R → Prop} {k : Nat} {z v w : Int32} (hz : sb 1 z) (hv : sb 1 v) (hx : sb N x) (hN : N + 2 ≤ 60) (hC : LV [] (660 * (N + 2)) (N + 2) C I τ) (hT : g_T C = []) (hpp : p ≤ p_np (s_P (g_S C))) (hP : BE P (N + 2) p) : RP (RR (d + 44) 239 202 [some (.ref 1), some (.ref 70), some (.int x), some (.int (iN p)), some (.int (iN k))] [.int z, .int v, .int x] (I, τ)) P := by
  rw [b_239_202]
  refine RP_n (zb_nlt (zb_add hx (zb_add hv hz (by omega)) (by omega)) (by omega)) ?_
  rw [b_239_211]
  exact RP_ret (hP _ _ _ _ rfl hC hT hpp)
theorem bl_end {P : qq_O → qq_I → qq_R → Prop} {k : Nat} (hN : N + 2 ≤ 60) (h : BS N p x I τ) (hP : BE P (N + 2) p) (hk3 : ¬ iN k < iN 3) : RP (RR (d + 44) 239 142 [some (.ref 1), some (.ref 70), some (.int x), some (.int (iN p)), some (.int (iN k))] [] (I, τ)) P := by
  obtain ⟨h1, h2, C, h3, h4, h5⟩ := h
  rw [b_239_142]
  refine RP_n hk3 ?_
  obtain ⟨r, hr, hC⟩ := L_in (d := d + 42) h3 (t := 57) (m := 6) (by omega) (by omega) (by omega)
  refine LC_bd hC (fun I τ hL => ?_)
  rw [vl_some, b_239_186]
  obtain ⟨v, C', hA, hC⟩ := L_222 (d := d + 2) hL (by omega) (iN r)
  refine LC_bd hC (fun I τ hL => ?_)
  obtain ⟨s, hs, hC⟩ := L_in (d := d + 42) hL (t := 58) (m := 2) (by omega) (by omega) (by omega)
  rw [vl_some, b_239_187]
  refine LC_bd hC (fun I τ hL => ?_)
  rw [vl_some, b_239_191]
  refine RP_if (fun _ => ?_) (fun _ => ?_)
  · obtain ⟨t, ht, hC⟩ := L_in (d := d + 42) hL (t := 59) (m := 3) (by omega) (by omega) (by omega)
    refine LC_bd hC (fun I τ hL => ?_)
    rw [vl_some, b_239_198]
    obtain ⟨w, C2, hA2, hC⟩ := L_223 (d := d + 2) hL (by omega) (iN 1 + iN t)
    refine LC_bd hC (fun I τ hL => ?_)
    rw [vl_some, b_239_200]
    exact bl_202 (zb_AC hA2) (zb_AC hA) h2 hN (LV_bu hL (by omega) (by omega)) (hA2.1 (hA.1 h4)) (Nat.le_trans h5 (Nat.le_trans hA.2.1 hA2.2.1)) hP (w := 0)
  · exact bl_202 zb_1 (zb_AC hA) h2 hN (LV_up (LV_bu hL (by omega) (by omega)) (by omega)) (hA.1 h4) (Nat.le_trans h5 hA.2.1) hP (w := 0)
theorem bl_142 (n0 : Nat) {P : qq_O → qq_I → qq_R → Prop} (hn0 : n0 + 5 ≤ 60) (hP : BE P (n0 + 3 + 2) p) :
    ∀ j k x I τ, k + j = 3 → BS (n0 + k) p x I τ → RP (RR (d + 44) 239 142 [some (.ref 1), some (.ref 70), some (.int x), some (.int (iN p)), some (.int (iN k))] [] (I, τ)) P := by
  intro j
  induction j with
  | zero =>
    intro k x I τ hk h
    have e : k = 3 := by omega
    subst e
    exact bl_end (by omega) h hP (by rw [iN_lt (by omega) (by omega)]; omega)
  | succ j ih =>
    intro k x I τ hk h
    rw [b_239_142]
    refine RP_y (by rw [iN_lt (by omega) (by omega)]; omega) ?_
    rw [iN_add]
    obtain ⟨a, ha, hC⟩ := BS_in (d := d) h (t := 44 + k) (m := 3) (by omega) (by omega) (by omega)
    refine LC_bd hC (fun I τ h => ?_)
    rw [vl_some, b_239_153]
    rw [iN_add]
    obtain ⟨b, hb, hC⟩ := BS_in (d := d) h (t := 47 + k) (m := 8) (by omega) (by omega) (by omega)
    refine LC_bd hC (fun I τ h => ?_)
    rw [vl_some, b_239_159]
    rw [iN_add]
    obtain ⟨c, hc, hC⟩ := BS_in (d := d) h (t := 50 + k) (m := 30) (by omega) (by omega) (by omega)
    refine LC_bd hC (fun I τ h => ?_)
    rw [vl_some, b_239_166]
    rw [iN_add, iN_add]
    obtain ⟨e, he, hC⟩ := BS_in (d := d) h (t := 53 + k) (m := 3 + k) (by omega) (by omega) (by omega)
    refine LC_bd hC (fun I τ h => ?_)
    rw [vl_some, b_239_175]
    obtain ⟨v, hv, hC⟩ := BS_do h (by omega) (fun C hL hB => L_220 (d := d + 2) hL hB (iN a) (iN b) (iN 1 + iN c) (iN e))
    refine LC_bd hC (fun I τ h => ?_)
    rw [vl_some, b_239_176, iN_add]
    exact ih (k + 1) _ _ _ (by omega) h
/-- the chancery that the law begins with -/
theorem L_begun (h : LV [] 0 0 C0s I τ) {P : qq_O → qq_I → qq_R → Prop} (hP : ∀ C I τ, LV [] 23760 36 C I τ → g_T C = [] → 3 ≤ p_np (s_P (g_S C)) → P (.inl (some (.ref 70))) I τ) : RP (RR (d + 44) 239 3 [some (.ref 1), none, none, none, none] [.ref 70] (I, τ)) P := by
  have h0 : BS 0 0 (iN 0) I τ := ⟨by omega, zb_0, C0s, h, rfl, Nat.zero_le _⟩
  obtain ⟨r, hr, hC⟩ := BS_in (d := d) h0 (t := 0) (m := 6) (by omega) (by omega) (by omega)
  rw [b_239_3]
  refine LC_bd hC (fun I τ h => ?_)
  rw [vl_some, b_239_11, iN_add]
  refine bl_15 (p := 3 + r) 0 (by omega) (by omega) (by omega) (fun x I τ h => ?_) (3 + r) 0 _ _ _ (by omega) (BS_p h (by omega))
  refine bl_27 (p := 3 + r) (0 + (3 + r)) (by omega) (by omega) (by omega) (fun x I τ h => ?_) (3 + r) 0 _ _ _ (by omega) h
  refine bl_46 (p := 3 + r) 16 (by omega) (by omega) (by omega) (fun x I τ h => ?_) 7 0 _ _ _ (by omega) (BS_up h (by omega) (by omega))
  refine bl_77 (p := 3 + r) 23 (by omega) (by omega) (by omega) (fun x I τ h => ?_) 5 0 _ _ _ (by omega) h
  refine bl_110 (p := 3 + r) 28 (by omega) (by omega) (by omega) (fun x I τ h => ?_) 3 0 _ _ _ (by omega) h
  refine bl_142 (p := 3 + r) 31 (by omega) (fun o C I τ ho hL hT hp => ?_) 3 0 _ _ _ (by omega) h
  subst ho
  exact hP C I τ hL hT (by omega)
end BE
