/-! NIGHTS AND PAID BAILS: what holds of every state beside wS -/
/-- the bails that are paid -/
def pdl (l : List sW) : Nat := ((l.filter (fun w => w_pd w == 1)).map w_ba).sum
def iS (B : Nat) (S : sS) : Prop := (∀ w ∈ (s_U S).1, s_ni S ≤ w_la w ∧ w_ba w ≤ 60) ∧ ∃ t, m_tr (s_M S) = iN t ∧ pdl (s_U S).1 ≤ t ∧ t ≤ B
theorem iS_up {B B' : Nat} {S : sS} (h : iS B S) (hB : B ≤ B') : iS B' S := by
  obtain ⟨h1, t, h2, h3, h4⟩ := h
  exact ⟨h1, t, h2, h3, by omega⟩
theorem iS_P {B : Nat} {S : sS} {P : sP} (h : iS B S) : iS B (sPl S P) := h
theorem pdl_app (l m : List sW) : pdl (l ++ m) = pdl l + pdl m := by
  unfold pdl
  rw [List.filter_append, List.map_append, List.sum_append]
theorem iS_op {B : Nat} {S : sS} (h : iS B S) {of n ba ca : Nat} (hb : ba ≤ 60) : iS B (opS S of n ba ca) := by
  obtain ⟨h1, t, h2, h3, h4⟩ := h
  refine ⟨fun w hw => ?_, t, h2, ?_, h4⟩
  · rcases List.mem_append.mp (show w ∈ (s_U S).1 ++ _ from hw) with q | q
    · exact h1 w q
    · rw [List.mem_singleton] at q
      rw [q]
      exact ⟨Nat.le_add_right _ _, hb⟩
  · show pdl ((s_U S).1 ++ [(unx (s_U S), of, s_ni S + n, ba, 0, ca)]) ≤ t
    rw [pdl_app]
    exact h3
theorem iS_put {B : Nat} {S : sS} (h : iS B S) {w c : Nat} : iS B (s_P S, s_U S, sm_put (s_M S) w c, s_N S) := h
theorem pdl_map {g : sW → sW} (h1 : ∀ w, w_pd (g w) = w_pd w) (h2 : ∀ w, w_ba (g w) = w_ba w) : ∀ l, pdl (l.map g) = pdl l := by
  intro l
  induction l with
  | nil => rfl
  | cons w l ih =>
    have e : ∀ (w : sW) (l : List sW), pdl (w :: l) = (if w_pd w = 1 then w_ba w else 0) + pdl l := by
      intro w l
      unfold pdl
      rw [List.filter_cons]
      by_cases q : w_pd w = 1
      · rw [if_pos (beq_iff_eq.mpr q), if_pos q, List.map_cons, List.sum_cons]
      · rw [if_neg (fun z => q (beq_iff_eq.mp z)), if_neg q, Nat.zero_add]
    rw [List.map_cons, e, e, h1, h2, ih]
theorem pdl_cons (w : sW) (l : List sW) : pdl (w :: l) = (if w_pd w = 1 then w_ba w else 0) + pdl l := by
  unfold pdl
  rw [List.filter_cons]
  by_cases q : w_pd w = 1
  · rw [if_pos (beq_iff_eq.mpr q), if_pos q, List.map_cons, List.sum_cons]
  · rw [if_neg (fun z => q (beq_iff_eq.mp z)), if_neg q, Nat.zero_add]
theorem bk_cons (f : sW → Bool) (w : sW) (l : List sW) : bk f (w :: l) = (if f w = false ∧ w_pd w = 1 then w_ba w else 0) + bk f l := by
  unfold bk
  rw [List.filter_cons]
  by_cases q : f w = false ∧ w_pd w = 1
  · rw [if_pos q, if_pos (by rw [q.1]; simp [q.2]), List.map_cons, List.sum_cons]
  · rw [if_neg q, if_neg (fun z => q (by simpa using z)), Nat.zero_add]
theorem pdl_split (f : sW → Bool) : ∀ l, pdl l = pdl (l.filter f) + bk f l := by
  intro l
  induction l with
  | nil => rfl
  | cons w l ih =>
    rw [pdl_cons, bk_cons, List.filter_cons, ih]
    cases hf : f w with
    | true =>
      rw [if_pos rfl, pdl_cons]
      simp only [Bool.true_eq_false, false_and, if_false]
      omega
    | false =>
      simp only [Bool.false_eq_true, if_false, true_and]
      omega
theorem pdl_kp (f : sW → Bool) (l : List sW) : pdl (kp f l) = pdl (l.filter f) := pdl_map (g := dcs l f) (fun _ => rfl) (fun _ => rfl) _
/-- what falls, with what is paid back -/
theorem iS_fall {B n : Nat} {l : List sW} {f : sW → Bool} {ni ni' : Nat} (h : ∀ w ∈ l, ni ≤ w_la w ∧ w_ba w ≤ 60) (hni : ∀ w ∈ l, f w = true → ni' ≤ w_la w) (ht : pdl l ≤ n) (hn : n ≤ B) :
    (∀ w ∈ kp f l, ni' ≤ w_la w ∧ w_ba w ≤ 60) ∧ ∃ t, iN n - iN (bk f l) = iN t ∧ pdl (kp f l) ≤ t ∧ t ≤ B := by
  have hs := pdl_split f l
  refine ⟨fun w hw => ?_, n - bk f l, iN_sub (by omega), by rw [pdl_kp]; omega, by omega⟩
  obtain ⟨x, hx, rfl⟩ := List.mem_map.mp hw
  obtain ⟨h1, h2⟩ := List.mem_filter.mp hx
  exact ⟨hni x h1 h2, (h x h1).2⟩
theorem iS_dsL {B : Nat} {S : sS} {f : sW → Bool} {n : Nat} (h : iS B S) (hn : ∀ w ∈ (s_U S).1, f w = true → n ≤ w_la w) {x : Nat} {u v w : Int32} : iS B (s_P S, (kp f (s_U S).1, (s_U S).2), sm_back (s_M S) (bk f (s_U S).1), (n, x, u, v, w)) := by
  obtain ⟨h1, t, h2, h3, h4⟩ := h
  have := iS_fall (B := B) (n := t) (f := f) h1 hn h3 h4
  rw [← h2] at this
  exact this
theorem iS_np {B : Nat} {S : sS} (h : iS B S) : iS B (npS S) := by
  have := iS_dsL (f := npf (s_ni S + 1)) (n := s_ni S + 1) h (fun w _ q => of_decide_eq_true q) (x := s_he S) (u := s_up S) (v := s_di S) (w := s_la S + iN (nb (npf (s_ni S + 1)) (s_U S).1))
  exact this
theorem iS_npN {B : Nat} {S : sS} (h : iS B S) : ∀ n, iS B (npN n S).1
  | 0 => h
  | n + 1 => iS_np (iS_npN h n)
theorem pdl_erase : ∀ (l : List sW) (k : Nat), pdl (l.eraseIdx k) ≤ pdl l := by
  intro l
  induction l with
  | nil => intro k; exact Nat.le_refl _
  | cons w l ih =>
    intro k
    cases k with
    | zero => rw [List.eraseIdx_cons_zero, pdl_cons]; omega
    | succ k =>
      rw [List.eraseIdx_cons_succ, pdl_cons, pdl_cons]
      have := ih k
      omega
theorem iS_he {B : Nat} {S : sS} (h : iS B S) {k : Nat} : iS B (heS S k) := by
  unfold heS
  split
  · exact iS_dsL (S := heT S) (f := heF (s_U S) k) (n := s_ni S) h (fun w hw _ => (h.1 w hw).1) (x := s_ni S + 1) (u := s_up S) (v := s_di S + iN (nb (heF (s_U S) k) (s_U S).1)) (w := s_la S)
  · obtain ⟨h1, t, h2, h3, h4⟩ := h
    refine ⟨fun w hw => ?_, t, h2, Nat.le_trans ?_ h3, h4⟩
    · obtain ⟨x, hx, rfl⟩ := List.mem_map.mp (show w ∈ ((s_U S).1.eraseIdx k).map _ from hw)
      exact h1 x (List.mem_of_mem_eraseIdx hx)
    · show pdl (((s_U S).1.eraseIdx k).map (dc (w_id (ug (s_U S) k)))) ≤ _
      rw [pdl_map (g := dc (w_id (ug (s_U S) k))) (fun _ => rfl) (fun _ => rfl)]
      exact pdl_erase _ _
theorem pdl_set : ∀ (l : List sW) (k : Nat) (w : sW), pdl (l.set k w) ≤ pdl l + w_ba w := by
  intro l
  induction l with
  | nil => intro k w; exact Nat.zero_le _
  | cons x l ih =>
    intro k w
    cases k with
    | zero =>
      rw [List.set_cons_zero, pdl_cons, pdl_cons]
      split <;> omega
    | succ k =>
      rw [List.set_cons_succ, pdl_cons, pdl_cons]
      have := ih k w
      omega
theorem iS_pay {B : Nat} {S : sS} (h : iS B S) {k : Nat} (hk : k < un (s_U S)) : iS (B + 60) (paS S k) := by
  obtain ⟨h1, t, h2, h3, h4⟩ := h
  have hm : ug (s_U S) k ∈ (s_U S).1 := by rw [ug_get hk]; exact List.getElem_mem _
  have hb := (h1 _ hm).2
  refine ⟨fun w hw => ?_, t + w_ba (ug (s_U S) k), ?_, ?_, by omega⟩
  · rcases List.mem_or_eq_of_mem_set (show w ∈ (s_U S).1.set k _ from hw) with q | q
    · exact h1 w q
    · rw [q]; exact h1 (ug (s_U S) k) hm
  · show m_tr (s_M S) + iN (w_ba (ug (s_U S) k)) = _
    rw [h2, iN_add]
  · have := pdl_set (s_U S).1 k (w_id (ug (s_U S) k), w_of (ug (s_U S) k), w_la (ug (s_U S) k), w_ba (ug (s_U S) k), 1, w_ca (ug (s_U S) k))
    show pdl ((s_U S).1.set k _) ≤ _
    have e : w_ba (w_id (ug (s_U S) k), w_of (ug (s_U S) k), w_la (ug (s_U S) k), w_ba (ug (s_U S) k), 1, w_ca (ug (s_U S) k)) = w_ba (ug (s_U S) k) := rfl
    omega
theorem inB_tn {lo hi : Nat} {x : Int32} (hl : lo < 1000000) (hh : hi < 1000000) (h : inB lo hi x = true) : lo ≤ tn x ∧ tn x ≤ hi := by
  obtain ⟨k, h1, h2, rfl⟩ := (inB_iff hh hl).mp h
  rw [tn_iN (by omega)]
  exact ⟨h1, h2⟩
theorem arg_b {S : sS} {x n b : Int32} (h : ft_arg S x n b = 45) : tn b ≤ 60 := by
  unfold ft_arg at h
  split at h
  · cases h
  · split at h
    · rename_i q
      exact (inB_tn (by omega) (by omega) (Bool.and_eq_true _ _ ▸ q).2).2
    · cases h
theorem wri_arg {S : sS} {x n b : Int32} (h : ft_wri S x n b = 45) : ft_arg S x n b = 45 := by
  unfold ft_wri at h
  split at h
  · assumption
  · exact h
theorem fol_arg {S : sS} {x n b c : Int32} (h : ft_fol S x n b c = 45) : ft_arg S x n b = 45 := by
  unfold ft_fol at h
  split at h
  · assumption
  · exact h
theorem iS_wri {B : Nat} {S : sS} {x n b : Int32} (h : iS B S) (hf : ft_wri S x n b = 45) : iS B (o_wri S x n b).2 := iS_op h (arg_b (wri_arg hf))
theorem iS_fol {B : Nat} {S : sS} {x n b c : Int32} (h : iS B S) (hf : ft_fol S x n b c = 45) : iS B (o_fol S x n b c).2 := iS_op h (arg_b (fol_arg hf))
theorem iS_opay {B : Nat} {S : sS} {x : Int32} (h : iS B S) : iS (B + 60) (o_pay S x).2 := by
  unfold o_pay
  cases hq : fiX (s_U S) x with
  | none => exact iS_up h (Nat.le_add_right _ _)
  | some k => exact iS_pay h (fiX_lt hq)
theorem iS_ohea {B : Nat} {S : sS} {x : Int32} (h : iS B S) : iS B (o_hea S x).2 := by
  unfold o_hea
  cases hq : fiX (s_U S) x with
  | none => exact h
  | some k => exact iS_he h
theorem iS_oo {B k : Nat} {S : sS} {a b c e : Int32} (h : iS B S) (hf : fo k S a b c e = 45) : iS (B + 60) (oo k S a b c e) := by
  have u := iS_up h (Nat.le_add_right B 60)
  unfold fo at hf
  unfold oo
  by_cases h0 : k = 0
  · rw [if_pos h0]; exact u
  rw [if_neg h0] at hf ⊢
  by_cases h1 : k = 1
  · rw [if_pos h1]; exact u
  rw [if_neg h1] at hf ⊢
  by_cases h2 : k = 2
  · rw [if_pos h2]; exact u
  rw [if_neg h2] at hf ⊢
  by_cases h3 : k = 3
  · rw [if_pos h3]; exact u
  rw [if_neg h3] at hf ⊢
  by_cases h4 : k = 4
  · rw [if_pos h4] at hf ⊢
    by_cases he : e = m1
    · rw [if_pos he] at hf ⊢; exact iS_wri u hf
    · rw [if_neg he] at hf ⊢; exact iS_fol u hf
  rw [if_neg h4] at hf ⊢
  by_cases h5 : k = 5
  · rw [if_pos h5]; exact u
  rw [if_neg h5] at hf ⊢
  by_cases h6 : k = 6
  · rw [if_pos h6]; exact iS_opay h
  rw [if_neg h6] at hf ⊢
  by_cases h7 : k = 7
  · rw [if_pos h7]; exact iS_ohea u
  rw [if_neg h7]
  exact iS_npN u _
/-! HOW MANY PEDESTALS -/
theorem mvP_np {U : sU} {P : sP} : ∀ r, p_np (mvP U r P).1 = p_np P := by
  intro r
  induction r with
  | zero => rfl
  | succ r ih =>
    unfold mvP
    dsimp only
    split
    · exact ih
    · split
      · exact ih
      · exact ih
theorem np_npN {S : sS} : ∀ n, p_np (s_P (npN n S).1) = p_np (s_P S)
  | 0 => rfl
  | n + 1 => (mvP_np (U := s_U (npL (npN n S).1)) (P := s_P (npN n S).1) (p_ns (s_P (npN n S).1))).trans (np_npN n)
theorem np_he {S : sS} {k : Nat} : p_np (s_P (heS S k)) = p_np (s_P S) := by
  unfold heS
  split
  · rfl
  · show p_np (heP S k) = _
    unfold heP
    split <;> rfl
theorem np_ohea {S : sS} {x : Int32} : p_np (s_P (o_hea S x).2) = p_np (s_P S) := by
  unfold o_hea
  cases fiX (s_U S) x with
  | none => rfl
  | some k => exact np_he
theorem np_opay {S : sS} {x : Int32} : p_np (s_P (o_pay S x).2) = p_np (s_P S) := by
  unfold o_pay
  cases fiX (s_U S) x with
  | none => rfl
  | some k => rfl
theorem np_oo {k : Nat} {S : sS} {a b c e : Int32} : p_np (s_P S) ≤ p_np (s_P (oo k S a b c e)) := by
  unfold oo
  split
  · exact Nat.le_succ _
  split
  · exact Nat.le_refl _
  split
  · exact Nat.le_refl _
  split
  · exact Nat.le_refl _
  split
  · split <;> exact Nat.le_refl _
  split
  · exact Nat.le_refl _
  split
  · rw [np_opay]; exact Nat.le_refl _
  split
  · rw [np_ohea]; exact Nat.le_refl _
  · exact Nat.le_of_eq (np_npN _).symm
theorem ruS_ok : ∀ (cs : List (Nat × List Nat)) (i B : Nat) (S S' : sS), iS B S → ruS cs i S = .inl S' → iS (B + 60 * cs.length) S' ∧ p_np (s_P S) ≤ p_np (s_P S') := by
  intro cs
  induction cs with
  | nil =>
    intro i B S S' h e
    cases e
    exact ⟨h, Nat.le_refl _⟩
  | cons q cs ih =>
    intro i B S S' h e
    obtain ⟨k, a⟩ := q
    unfold ruS at e
    split at e
    · rename_i hf
      obtain ⟨h1, h2⟩ := ih _ _ _ _ (iS_oo h hf) e
      exact ⟨iS_up h1 (by rw [List.length_cons]; omega), Nat.le_trans np_oo h2⟩
    · cases e
