/-! WRITS THAT FALL: what remains, whatever the order -/
/-- a writ behind the fall of all that f does not keep -/
def dcs (l : List sW) (f : sW → Bool) (w : sW) : sW := (w_id w, w_of w, w_la w, w_ba w, w_pd w, if l.any (fun x => !(f x) && (w_id x + 1 == w_ca w)) = true then 0 else w_ca w)
def kp (f : sW → Bool) (l : List sW) : List sW := (l.filter f).map (dcs l f)
def bk (f : sW → Bool) (l : List sW) : Nat := ((l.filter (fun w => !(f w) && (w_pd w == 1))).map w_ba).sum
def nb (f : sW → Bool) (l : List sW) : Nat := (l.filter (fun w => !(f w))).length
/-- f looks at nothing that a fall changes -/
def fok (f : sW → Bool) : Prop := ∀ n w, f (dc n w) = f w
theorem filter_erase {α : Type} {f : α → Bool} : ∀ (l : List α) (k : Nat) (h : k < l.length), f l[k] = false → (l.eraseIdx k).filter f = l.filter f := by
  intro l
  induction l with
  | nil => intro k h; exact absurd h (Nat.not_lt_zero _)
  | cons a l ih =>
    intro k h hf
    cases k with
    | zero =>
      rw [List.eraseIdx_cons_zero, List.filter_cons_of_neg (by rw [show f a = false from hf]; exact Bool.false_ne_true)]
    | succ k =>
      rw [List.eraseIdx_cons_succ, List.filter_cons, List.filter_cons, ih k (by rw [List.length_cons] at h; omega) hf]
theorem filter_erase_y {α : Type} {f : α → Bool} : ∀ (l : List α) (k : Nat) (h : k < l.length), f l[k] = true → (l.filter f).Perm (l[k] :: (l.eraseIdx k).filter f) := by
  intro l
  induction l with
  | nil => intro k h; exact absurd h (Nat.not_lt_zero _)
  | cons a l ih =>
    intro k h hf
    cases k with
    | zero =>
      rw [List.eraseIdx_cons_zero, List.filter_cons_of_pos (show f a = true from hf)]; exact List.Perm.refl _
    | succ k =>
      have h2 := ih k (by rw [List.length_cons] at h; omega) hf
      rw [List.eraseIdx_cons_succ, List.filter_cons, List.filter_cons, List.getElem_cons_succ]
      split
      · exact (h2.cons a).trans (List.Perm.swap _ _ _)
      · exact h2
theorem mem_erase {α : Type} : ∀ (l : List α) (k : Nat) (h : k < l.length) (x : α), x ∈ l ↔ x = l[k] ∨ x ∈ l.eraseIdx k := by
  intro l
  induction l with
  | nil => intro k h; exact absurd h (Nat.not_lt_zero _)
  | cons a l ih =>
    intro k h x
    cases k with
    | zero => rw [List.eraseIdx_cons_zero, List.mem_cons]; rfl
    | succ k =>
      rw [List.eraseIdx_cons_succ, List.mem_cons, List.mem_cons, ih k (by rw [List.length_cons] at h; omega) x, List.getElem_cons_succ]
      constructor
      · rintro (h | h | h)
        · exact Or.inr (Or.inl h)
        · exact Or.inl h
        · exact Or.inr (Or.inr h)
      · rintro (h | h | h)
        · exact Or.inr (Or.inl h)
        · exact Or.inl h
        · exact Or.inr (Or.inr h)
theorem kp_close {f : sW → Bool} (hf : fok f) {l : List sW} {k : Nat} (hk : k < l.length) (h : f l[k] = false) : kp f ((l.eraseIdx k).map (dc (w_id l[k]))) = kp f l := by
  unfold kp
  rw [List.filter_map, List.map_map]
  have e1 : (f ∘ dc (w_id l[k])) = f := funext (fun w => hf _ w)
  rw [e1, filter_erase l k hk h]
  refine List.map_congr_left (fun w hw => ?_)
  show dcs _ f (dc (w_id l[k]) w) = dcs l f w
  have e2 : ∀ c, (List.map (dc (w_id l[k])) (l.eraseIdx k)).any (fun x => !(f x) && (w_id x + 1 == c)) = (l.eraseIdx k).any (fun x => !(f x) && (w_id x + 1 == c)) := fun c => by
    rw [List.any_map]
    congr 1
    funext x
    show (!(f (dc _ x)) && _) = _
    rw [hf]; rfl
  have e3 : l.any (fun x => !(f x) && (w_id x + 1 == w_ca w)) = ((w_id l[k] + 1 == w_ca w) || (l.eraseIdx k).any (fun x => !(f x) && (w_id x + 1 == w_ca w))) := by
    rw [Bool.eq_iff_iff, Bool.or_eq_true, List.any_eq_true, List.any_eq_true]
    constructor
    · rintro ⟨x, hx, h2⟩
      rcases (mem_erase l k hk x).mp hx with rfl | hx
      · exact Or.inl (Bool.and_eq_true_iff.mp h2).2
      · exact Or.inr ⟨x, hx, h2⟩
    · rintro (h2 | ⟨x, hx, h2⟩)
      · exact ⟨l[k], List.getElem_mem _, Bool.and_eq_true_iff.mpr ⟨by rw [h]; rfl, h2⟩⟩
      · exact ⟨x, (mem_erase l k hk x).mpr (Or.inr hx), h2⟩
  unfold dcs
  have e4 : w_ca (dc (w_id l[k]) w) = if w_ca w = w_id l[k] + 1 then 0 else w_ca w := rfl
  have e5 : (l.eraseIdx k).any (fun x => !(f x) && (w_id x + 1 == 0)) = false := by
    rw [List.any_eq_false]
    intro x _
    simp
  simp only [e2, e3, e4]
  show (w_id w, w_of w, w_la w, w_ba w, w_pd w, _) = (w_id w, w_of w, w_la w, w_ba w, w_pd w, _)
  by_cases q : w_ca w = w_id l[k] + 1
  · rw [if_pos q, e5, if_neg Bool.false_ne_true]
    have : (w_id l[k] + 1 == w_ca w) = true := beq_iff_eq.mpr q.symm
    rw [this, Bool.true_or, if_pos rfl]
  · rw [if_neg q]
    have : (w_id l[k] + 1 == w_ca w) = false := beq_eq_false_iff_ne.mpr (fun z => q z.symm)
    rw [this, Bool.false_or]
theorem bk_close {f : sW → Bool} (hf : fok f) {l : List sW} {k : Nat} (hk : k < l.length) (h : f l[k] = false) : bk f l = (if w_pd l[k] = 1 then w_ba l[k] else 0) + bk f ((l.eraseIdx k).map (dc (w_id l[k]))) := by
  have e : bk f ((l.eraseIdx k).map (dc (w_id l[k]))) = bk f (l.eraseIdx k) := by
    unfold bk
    rw [List.filter_map, List.map_map]
    have e1 : ((fun w => !(f w) && (w_pd w == 1)) ∘ dc (w_id l[k])) = (fun w => !(f w) && (w_pd w == 1)) := funext (fun w => by
      show (!(f (dc _ w)) && _) = _
      rw [hf]; rfl)
    rw [e1]
    rfl
  rw [e]
  unfold bk
  by_cases q : w_pd l[k] = 1
  · rw [if_pos q]
    have := filter_erase_y (f := fun w => !(f w) && (w_pd w == 1)) l k hk (by simp [h, q])
    rw [(this.map w_ba).sum_nat, List.map_cons, List.sum_cons]
  · rw [if_neg q, Nat.zero_add, filter_erase (f := fun w => !(f w) && (w_pd w == 1)) l k hk (by simp [q])]
theorem nb_close {f : sW → Bool} (hf : fok f) {l : List sW} {k : Nat} (hk : k < l.length) (h : f l[k] = false) : nb f l = 1 + nb f ((l.eraseIdx k).map (dc (w_id l[k]))) := by
  have e : nb f ((l.eraseIdx k).map (dc (w_id l[k]))) = nb f (l.eraseIdx k) := by
    unfold nb
    rw [List.filter_map, List.length_map]
    have e1 : ((fun w => !(f w)) ∘ dc (w_id l[k])) = (fun w => !(f w)) := funext (fun w => by
      show (!(f (dc _ w))) = _
      rw [hf])
    rw [e1]
  rw [e]
  unfold nb
  have := filter_erase_y (f := fun w => !(f w)) l k hk (by rw [h]; rfl)
  rw [this.length_eq, List.length_cons, Nat.add_comm]
theorem kp_all {f : sW → Bool} {l : List sW} (h : ∀ w ∈ l, f w = true) : kp f l = l ∧ bk f l = 0 ∧ nb f l = 0 := by
  have e1 : l.filter f = l := List.filter_eq_self.mpr h
  have e2 : l.filter (fun w => !(f w)) = [] := List.filter_eq_nil_iff.mpr (fun w hw => by rw [h w hw]; exact Bool.false_ne_true)
  have e3 : l.filter (fun w => !(f w) && (w_pd w == 1)) = [] := List.filter_eq_nil_iff.mpr (fun w hw => by rw [h w hw]; exact Bool.false_ne_true)
  refine ⟨?_, ?_, ?_⟩
  · unfold kp
    rw [e1]
    conv => rhs; rw [← List.map_id l]
    refine List.map_congr_left (fun w hw => ?_)
    unfold dcs
    have : l.any (fun x => !(f x) && (w_id x + 1 == w_ca w)) = false := by
      rw [List.any_eq_false]
      intro x hx
      rw [h x hx]; exact Bool.false_ne_true
    rw [this, if_neg Bool.false_ne_true]
    rfl
  · unfold bk; rw [e3]; rfl
  · unfold nb; rw [e2]; rfl
theorem sm_back_back (M : sM) (a c : Nat) : sm_back (sm_back M a) c = sm_back M (a + c) := by
  unfold sm_back
  refine Prod.ext ?_ (Prod.ext ?_ rfl)
  · funext w
    show fu (fu (m_bl M) 1 (m_bl M 1 + a)) 1 (fu (m_bl M) 1 (m_bl M 1 + a) 1 + c) w = fu (m_bl M) 1 (m_bl M 1 + (a + c)) w
    by_cases e : w = 1
    · rw [e, fu_at, fu_at, fu_at, Nat.add_assoc]
    · rw [fu_ne e, fu_ne e, fu_ne e]
  · show m_tr M - iN a - iN c = m_tr M - iN (a + c)
    simp only [← iN_add, Int32.sub_eq_add_neg, Int32.neg_add, Int32.add_assoc]
theorem sm_back_0 (M : sM) : sm_back M 0 = M := by
  unfold sm_back
  refine Prod.ext ?_ (Prod.ext ?_ rfl)
  · funext w
    show fu (m_bl M) 1 (m_bl M 1 + 0) w = m_bl M w
    by_cases e : w = 1
    · rw [e, fu_at, Nat.add_zero]
    · rw [fu_ne e]
  · show m_tr M - Int32.ofNat 0 = m_tr M
    exact Int32.sub_zero _
/-- a writ closed without fine; all that f does not keep -/
def clS (S : sS) (k : Nat) : sS := (s_P S, su_close (s_U S) k, sm_back (s_M S) (if w_pd (ug (s_U S) k) = 1 then w_ba (ug (s_U S) k) else 0), s_N S)
def dsS (f : sW → Bool) (S : sS) : sS := (s_P S, (kp f (s_U S).1, (s_U S).2), sm_back (s_M S) (bk f (s_U S).1), s_N S)
def nbS (f : sW → Bool) (S : sS) : Nat := nb f (s_U S).1
theorem ug_get {U : sU} {k : Nat} (h : k < un U) : ug U k = U.1[k]'h := by
  unfold ug
  rw [List.getD_eq_getElem?_getD, List.getElem?_eq_getElem h]; rfl
theorem dsS_close {f : sW → Bool} (hf : fok f) {S : sS} {k : Nat} (hk : k < un (s_U S)) (h : f (ug (s_U S) k) = false) : dsS f (clS S k) = dsS f S ∧ nbS f S = 1 + nbS f (clS S k) := by
  rw [ug_get hk] at h
  have e : (s_U (clS S k)).1 = ((s_U S).1.eraseIdx k).map (dc (w_id ((s_U S).1[k]'hk))) := by
    show ((s_U S).1.eraseIdx k).map (dc (w_id (ug (s_U S) k))) = _
    rw [ug_get hk]
  constructor
  · unfold dsS
    rw [e, kp_close hf hk h, bk_close hf hk h]
    show (s_P S, (kp f (s_U S).1, (s_U S).2), sm_back (sm_back (s_M S) (if w_pd (ug (s_U S) k) = 1 then w_ba (ug (s_U S) k) else 0)) _, s_N S) = _
    rw [sm_back_back, ug_get hk]
  · unfold nbS
    rw [e, nb_close hf hk h]
theorem dsS_all {f : sW → Bool} {S : sS} (h : ∀ k, k < un (s_U S) → f (ug (s_U S) k) = true) : dsS f S = S ∧ nbS f S = 0 := by
  have h2 : ∀ w ∈ (s_U S).1, f w = true := fun w hw => by
    obtain ⟨k, hk, rfl⟩ := List.getElem_of_mem hw
    have := h k hk
    rw [ug_get hk] at this
    exact this
  obtain ⟨e1, e2, e3⟩ := kp_all h2
  constructor
  · unfold dsS
    rw [e1, e2, sm_back_0]; rfl
  · exact e3
theorem wU_close {U : sU} (hw : wU U) {k : Nat} (hk : k < un U) : wU (su_close U k) := by
  obtain ⟨w1, w2, w3, w4⟩ := hw
  have hun := un_close hk
  refine ⟨by omega, w2, fun i j hij hj => ?_, fun i hi => ?_⟩
  · rw [hun] at hj
    rw [ug_close hk (by omega), ug_close hk hj]
    show w_id (ug U _) < w_id (ug U _)
    refine w3 _ _ ?_ ?_
    · split <;> split <;> omega
    · split <;> omega
  · rw [hun] at hi
    rw [ug_close hk hi]
    obtain ⟨q1, q2, q3, q4, q5, q6, q7⟩ := w4 (if i < k then i else i + 1) (by split <;> omega)
    refine ⟨q1, q2, q3, q4, q5, q6, ?_⟩
    show (if w_ca (ug U (if i < k then i else i + 1)) = w_id (ug U k) + 1 then 0 else w_ca (ug U (if i < k then i else i + 1))) = 0 ∨ ∃ j, j < i ∧ (if w_ca (ug U (if i < k then i else i + 1)) = w_id (ug U k) + 1 then 0 else w_ca (ug U (if i < k then i else i + 1))) = w_id (ug (su_close U k) j) + 1
    by_cases q : w_ca (ug U (if i < k then i else i + 1)) = w_id (ug U k) + 1
    · rw [if_pos q]; exact Or.inl rfl
    · rw [if_neg q]
      rcases q7 with q7 | ⟨j, hj, q7⟩
      · exact Or.inl q7
      · right
        have hjk : j ≠ k := fun z => q (by rw [q7, z])
        have hj2 : j < (if i < k then i else i + 1) := hj
        refine ⟨if j < k then j else j - 1, ?_, ?_⟩
        · split at hj2 <;> split <;> omega
        · rw [q7, ug_close hk (by split at hj2 <;> split <;> omega)]
          show w_id (ug U j) + 1 = w_id (ug U _) + 1
          congr 3
          by_cases z : j < k
          · rw [if_pos z, if_pos z]
          · rw [if_neg z, if_neg (by omega)]; omega
theorem sA_back {bl : Nat → Nat} {a : Nat} : sA (fun w => iN (fu bl 1 (bl 1 + a) w)) 20 = sA (fun w => iN (bl w)) 20 + iN a := by
  have h := sA_fu (f := fun w => iN (bl w)) (w := 1) (c := iN a) 20 (by omega) (by omega)
  have e : (fun w => iN (fu bl 1 (bl 1 + a) w)) = fu (fun w => iN (bl w)) 1 (iN (bl 1) + iN a) := by
    funext w
    by_cases e : w = 1
    · rw [e, fu_at, fu_at, iN_add]
    · rw [fu_ne e, fu_ne e]
  rw [e, h]
  congr 1
  show Int32.ofNat 1 * iN a = iN a
  exact Int32.one_mul _
theorem tr_back {t s a : Int32} : t - a + (s + a) = t + s := by
  rw [Int32.sub_eq_add_neg, Int32.add_comm s a, Int32.add_assoc, ← Int32.add_assoc (-a) a s, Int32.add_left_neg, Int32.zero_add]
theorem wS_cl {B : Nat} {S : sS} (hw : wS B S) {k : Nat} (hk : k < un (s_U S)) : wS B (clS S k) := by
  obtain ⟨q1, q2, q3, q4, q5, q6, q7, q8, q9⟩ := hw
  have hun := un_close hk
  have h4 := q3.2.2.2 k hk
  refine ⟨q1, q2, wU_close q3 hk, q4, q5, fun i hi => ?_, fun w hw => ?_, q8, ?_⟩
  · have hi : i < un (su_close (s_U S) k) := hi
    rw [hun] at hi
    have e : ug (s_U (clS S k)) i = dc (w_id (ug (s_U S) k)) (ug (s_U S) (if i < k then i else i + 1)) := ug_close hk hi
    rw [e]
    exact q6 _ (by split <;> omega)
  · have e : un (s_U (clS S k)) = un (s_U S) - 1 := hun
    rw [e]
    have h7 := q7 w hw
    show fu (m_bl (s_M S)) 1 (m_bl (s_M S) 1 + (if w_pd (ug (s_U S) k) = 1 then w_ba (ug (s_U S) k) else 0)) w + 60 * (un (s_U S) - 1) ≤ B
    by_cases ew : w = 1
    · subst ew
      rw [fu_at]
      split <;> omega
    · rw [fu_ne ew]; exact Nat.le_trans (Nat.add_le_add_left (Nat.mul_le_mul_left 60 (Nat.sub_le _ _)) _) h7
  · show m_tr (s_M S) - iN _ + sA (fun w => iN (fu (m_bl (s_M S)) 1 (m_bl (s_M S) 1 + _) w)) 20 = m_ad (s_M S)
    rw [sA_back, tr_back]
    exact q9
section CL
variable {d : Nat} {I : qq_I} {τ : qq_R} {b : Nat} {S : sS} {B : Nat}
theorem c_closeWithoutFine (hL : L_R τ b) (hR : R_R I b S) (hw : wS B S) {k : Nat} (hk : k < un (s_U S)) : ∃ I', CC (d + 2) 90 [.ref b, .int (iN k)] (I, τ) = some (.inl none, (I', τ)) ∧ R_R I' b (clS S k) ∧ Fr b 17 I I' := by
  have hm := wS_M hw
  have hw3 := hw.2.2.1
  obtain ⟨hb, k0, k1, k2, k3, lp, lw, lm⟩ := hL
  obtain ⟨h1, h2, h3, h4, h5, h6, h7, h8⟩ := hR
  have l2 := lw.2.1
  have l3 := lm.2.1
  have l7 := lw.2.2.2.2.2.2.2.1
  have l5 := lw.2.2.2.2.2.1
  have i4 := lw.2.2.2.2.2.2.2.2.2.2.2.1
  have i6 := lw.2.2.2.2.2.2.2.2.2.2.2.2.2
  have w1 := hw3.1
  have e4 := hw3.2.2.2 k hk
  have r7 := h2.2.2.2.2.2.2.2 k hk
  have r5 := h2.2.2.2.2.2.1 k hk
  by_cases q : w_pd (ug (s_U S) k) = 1
  · obtain ⟨I1, s1, s2, s3⟩ := c_giveBack (d := d + 1) lm h3 hm (b := w_ba (ug (s_U S) k))
    obtain ⟨I2, t1, t2, t3⟩ := c_close (d := d) lw (R_U_same h2 (fun a _ _ => s3 a (by omega))) hw3 hk
    have f : ∀ a, (a < b + 7 ∨ b + 17 ≤ a) → I2 a = I a := fun a ha => by rw [t3 a (by omega), s3 a (by omega)]
    refine ⟨I2, ?_, ⟨R_P_same h1 (fun a _ _ => f a (by omega)), t2, ?_, ?_, ?_, ?_, ?_, ?_⟩, fun a ha => f a (by omega)⟩
    · rw [c_90, b_90_0]
      simp (disch := omega) only [rd_I_mk, rd_R_mk, rd_L_mk, rd_D_mk, kd_mk, wr_I_mk, cp_mk, gd_true, bd_ret, bd_thr, vl_none, vl_some, iN_add, iN_mul, iN_sub, iN_lt, iN_eq, iN_n, iN_m1, iN_pred, vp_iN, K0_le, nr_b0, nr_b1, m1_lt, lt_m1, iN_ne_m1, m1_ne_iN, not_lt_z, true_and, and_true, and_self, or_true, true_or, or_false, false_or, if_true, if_false, ↓reduceIte, eq_self, up_at, up_a, up_k, cp_c, cp_b, Nat.zero_add, Nat.add_zero, Nat.sub_zero, Nat.le_refl, Nat.add_sub_cancel, fu_at, fu_ne, iN_nz, n10_f, n01_f, ofN, qq_at_100, k110b, Nat.lt_irrefl, Nat.not_lt_zero, ne_eq, not_false_eq_true, not_true_eq_false, k0, k2, l2, l7, i6, r7, q, k3, l5, i4, r5, l3, s1, b_90_14, t1, b_90_18]
    · have : s_M (clS S k) = sm_back (s_M S) (w_ba (ug (s_U S) k)) := by
        show sm_back (s_M S) _ = _
        rw [if_pos q]
      rw [this]
      exact R_M_same s2 (fun a _ _ => t3 a (by omega))
    all_goals
      rw [f b (by omega)]; assumption
  · obtain ⟨I2, t1, t2, t3⟩ := c_close (d := d) lw h2 hw3 hk
    have q0 : w_pd (ug (s_U S) k) = 0 := by omega
    refine ⟨I2, ?_, ⟨R_P_same h1 (fun a _ _ => t3 a (by omega)), t2, ?_, ?_, ?_, ?_, ?_, ?_⟩, fun a ha => t3 a (by omega)⟩
    · rw [c_90, b_90_0]
      simp (disch := omega) only [rd_I_mk, rd_R_mk, rd_L_mk, rd_D_mk, kd_mk, wr_I_mk, cp_mk, gd_true, bd_ret, bd_thr, vl_none, vl_some, iN_add, iN_mul, iN_sub, iN_lt, iN_eq, iN_n, iN_m1, iN_pred, vp_iN, K0_le, nr_b0, nr_b1, m1_lt, lt_m1, iN_ne_m1, m1_ne_iN, not_lt_z, true_and, and_true, and_self, or_true, true_or, or_false, false_or, if_true, if_false, ↓reduceIte, eq_self, up_at, up_a, up_k, cp_c, cp_b, Nat.zero_add, Nat.add_zero, Nat.sub_zero, Nat.le_refl, Nat.add_sub_cancel, fu_at, fu_ne, iN_nz, n10_f, n01_f, ofN, qq_at_100, k110b, Nat.lt_irrefl, Nat.not_lt_zero, ne_eq, not_false_eq_true, not_true_eq_false, k0, k2, l2, l7, i6, r7, q0, b_90_14, t1, b_90_18]
    · have : s_M (clS S k) = s_M S := by
        show sm_back (s_M S) _ = _
        rw [if_neg q, sm_back_0]
      rw [this]
      exact R_M_same h3 (fun a _ _ => t3 a (by omega))
    all_goals
      rw [t3 b (by omega)]; assumption
end CL
