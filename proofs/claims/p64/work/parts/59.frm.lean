/-! WHAT A RUN CAN'T REACH STAYS AS IT IS -/
def isRf : FieldType → Bool
  | .object _ => true
  | .array _ => true
  | _ => false
/-- which places of a cell hold references -/
def lgR (σ : qq_S) (a k : Nat) : Prop := ((kd_S σ a).1 < 100 ∧ k < qq_nf (kd_S σ a).1 ∧ isRf (qq_ty (kd_S σ a).1 k) = true) ∨ ((110 ≤ (kd_S σ a).1 ∧ (kd_S σ a).1 < 113) ∧ k < (kd_S σ a).2)
def KS (K : Nat → Prop) (z : Nat) (σ : qq_S) (a : Nat) : Prop := K a ∨ (z ≤ a ∧ a < sz_S σ)
def vK (K : Nat → Prop) (z : Nat) (σ : qq_S) (v : Value) : Prop := ∀ a, v = .ref a → KS K z σ a
def clK (K : Nat → Prop) (z : Nat) (σ : qq_S) : Prop := z ≤ sz_S σ ∧ (∀ a, a < 70 → K a) ∧ (∀ a, K a → a < z) ∧ ∀ a, KS K z σ a → ∀ k, lgR σ a k → KS K z σ (rd_R σ a k)
def frK (K : Nat → Prop) (z : Nat) (σ σ' : qq_S) : Prop := sz_S σ ≤ sz_S σ' ∧ ∀ a, a < z → kd_S σ' a = kd_S σ a ∧ (¬ K a → σ'.1 a = σ.1 a ∧ σ'.2.1 a = σ.2.1 a)
section FM
variable {K : Nat → Prop} {z : Nat} {σ σ' σ'' : qq_S}
theorem frK_rf : frK K z σ σ := ⟨Nat.le_refl _, fun _ _ => ⟨rfl, fun _ => ⟨rfl, rfl⟩⟩⟩
theorem frK_tr (h1 : frK K z σ σ') (h2 : frK K z σ' σ'') : frK K z σ σ'' := ⟨Nat.le_trans h1.1 h2.1, fun a ha => ⟨(h2.2 a ha).1.trans (h1.2 a ha).1, fun hn => ⟨((h2.2 a ha).2 hn).1.trans ((h1.2 a ha).2 hn).1, ((h2.2 a ha).2 hn).2.trans ((h1.2 a ha).2 hn).2⟩⟩⟩
theorem KS_up {a : Nat} (h : KS K z σ a) (hs : sz_S σ ≤ sz_S σ') : KS K z σ' a := h.imp id (fun q => ⟨q.1, Nat.lt_of_lt_of_le q.2 hs⟩)
theorem vK_up {v : Value} (h : vK K z σ v) (hs : sz_S σ ≤ sz_S σ') : vK K z σ' v := fun a e => KS_up (h a e) hs
theorem vK_int {x : Int32} : vK K z σ (.int x) := fun _ e => nomatch e
theorem vK_long {x : Int64} : vK K z σ (.long x) := fun _ e => nomatch e
theorem vK_ref {a : Nat} (h : KS K z σ a) : vK K z σ (.ref a) := fun b e => by cases e; exact h
theorem KS_0 (hc : clK K z σ) {a : Nat} (ha : a < 70) : KS K z σ a := Or.inl (hc.2.1 a ha)
theorem KS_lt (hc : clK K z σ) {a : Nat} (h : KS K z σ a) : a < sz_S σ := by
  rcases h with h | h
  · exact Nat.lt_of_lt_of_le (hc.2.2.1 a h) hc.1
  · exact h.2
theorem nf_100 {c k : Nat} (h : k < qq_nf c) : c < 100 := by
  rcases Nat.lt_or_ge c 13 with q | q
  · omega
  · have e : qq_nf c = 0 := by
      unfold qq_nf
      rw [List.getD_eq_getElem?_getD, List.getElem?_eq_none (show qq_tys.length ≤ c from q)]
      rfl
    omega
theorem val_K {ty : FieldType} {a k : Nat} (h : isRf ty = true → KS K z σ (rd_R σ a k)) : vK K z σ (qq_val σ ty a k) := by
  intro b e
  cases ty <;> first | (simp only [qq_val] at e; cases e; exact h rfl) | (simp only [qq_val] at e; cases e)
/-- ints, longs or doubles written -/
theorem K_wr {a k : Nat} {x : Int32} (hc : clK K z σ) (ha : KS K z σ a) : clK K z (wr_I σ a k x) ∧ frK K z σ (wr_I σ a k x) :=
  ⟨hc, Nat.le_refl _, fun b hb => ⟨rfl, fun hn => ⟨by
    have hne : b ≠ a := by
      rintro rfl
      rcases ha with h | h
      · exact hn h
      · omega
    exact funext (fun j => if_neg (fun q => hne q.1)), rfl⟩⟩⟩
theorem K_wL {a k : Nat} {x : Int64} (hc : clK K z σ) : clK K z (wr_L σ a k x) ∧ frK K z σ (wr_L σ a k x) := ⟨hc, Nat.le_refl _, fun _ _ => ⟨rfl, fun _ => ⟨rfl, rfl⟩⟩⟩
theorem K_wD {a k : Nat} {x : UInt64} (hc : clK K z σ) : clK K z (wr_D σ a k x) ∧ frK K z σ (wr_D σ a k x) := ⟨hc, Nat.le_refl _, fun _ _ => ⟨rfl, fun _ => ⟨rfl, rfl⟩⟩⟩
theorem K_wR {a k b : Nat} (hc : clK K z σ) (ha : KS K z σ a) (hb : KS K z σ b) : clK K z (wr_R σ a k b) ∧ frK K z σ (wr_R σ a k b) := by
  refine ⟨⟨hc.1, hc.2.1, hc.2.2.1, fun c h j hl => ?_⟩, Nat.le_refl _, fun c hcz => ⟨rfl, fun hn => ⟨rfl, ?_⟩⟩⟩
  · show KS K z σ (if c = a ∧ j = k then b else rd_R σ c j)
    by_cases q : c = a ∧ j = k
    · rw [if_pos q]; exact hb
    · rw [if_neg q]; exact hc.2.2.2 c h j hl
  · have hne : c ≠ a := by
      rintro rfl
      rcases ha with h | h
      · exact hn h
      · omega
    exact funext (fun j => if_neg (fun q => hne q.1))
theorem K_cp {a sp b dp n : Nat} (hc : clK K z σ) (hb : KS K z σ b) : clK K z (cp_S σ a sp b dp n) ∧ frK K z σ (cp_S σ a sp b dp n) :=
  ⟨hc, Nat.le_refl _, fun c hcz => ⟨rfl, fun hn => ⟨by
    have hne : c ≠ b := by
      rintro rfl
      rcases hb with h | h
      · exact hn h
      · omega
    exact funext (fun j => if_neg (fun q => hne q.1)), rfl⟩⟩⟩
theorem K_nw {n : Nat} {kd : Nat × Nat} {s : Nat} (hc : clK K z σ) : clK K z (nw_S σ n kd s) ∧ frK K z σ (nw_S σ n kd s) := by
  have hz : sz_S (nw_S σ n kd s) = sz_S σ + n := rfl
  refine ⟨⟨by rw [hz]; exact Nat.le_trans hc.1 (Nat.le_add_right _ _), hc.2.1, hc.2.2.1, fun c h j hl => ?_⟩, by rw [hz]; exact Nat.le_add_right _ _, fun c hcz => ?_⟩
  · show KS K z _ (if sz_S σ ≤ c ∧ c < sz_S σ + n then 0 else rd_R σ c j)
    by_cases q : sz_S σ ≤ c ∧ c < sz_S σ + n
    · rw [if_pos q]; exact Or.inl (hc.2.1 0 (by omega))
    · rw [if_neg q]
      have hk : kd_S (nw_S σ n kd s) c = kd_S σ c := if_neg q
      have h2 : KS K z σ c := by
        rcases h with h | h
        · exact Or.inl h
        · rw [hz] at h
          exact Or.inr ⟨h.1, by omega⟩
      refine KS_up (hc.2.2.2 c h2 j ?_) (by rw [hz]; exact Nat.le_add_right _ _)
      unfold lgR at hl ⊢
      rw [hk] at hl
      exact hl
  · have q : ¬ (sz_S σ ≤ c ∧ c < sz_S σ + n) := fun q => by have := hc.1; omega
    exact ⟨if_neg q, fun _ => ⟨funext (fun j => if_neg q), funext (fun j => if_neg q)⟩⟩
theorem K_gr {n k s t : Nat} (hc : clK K z σ) : clK K z (gr_S (nw_S (nw_S σ 1 (110, n) s) n (100, k) t) (sz_S σ) n) ∧ frK K z σ (gr_S (nw_S (nw_S σ 1 (110, n) s) n (100, k) t) (sz_S σ) n) := by
  obtain ⟨c1, f1⟩ := K_nw (n := 1) (kd := (110, n)) (s := s) hc
  obtain ⟨c2, f2⟩ := K_nw (n := n) (kd := (100, k)) (s := t) c1
  have hz : sz_S (nw_S (nw_S σ 1 (110, n) s) n (100, k) t) = sz_S σ + 1 + n := rfl
  refine ⟨⟨c2.1, c2.2.1, c2.2.2.1, fun c h j hl => ?_⟩, frK_tr (frK_tr f1 f2) ⟨Nat.le_refl _, fun c hcz => ⟨rfl, fun _ => ⟨rfl, funext (fun j => if_neg (fun q => by have := hc.1; omega))⟩⟩⟩⟩
  show KS K z _ (if c = sz_S σ ∧ j < n then sz_S σ + 1 + j else rd_R (nw_S (nw_S σ 1 (110, n) s) n (100, k) t) c j)
  by_cases q : c = sz_S σ ∧ j < n
  · rw [if_pos q]
    refine Or.inr ⟨by have := hc.1; omega, ?_⟩
    show _ < sz_S σ + 1 + n
    omega
  · rw [if_neg q]
    exact c2.2.2.2 c h j hl
theorem K_put {ty : FieldType} {a k : Nat} {v : Value} (h : qq_put σ ty a k v = some σ') (hc : clK K z σ) (ha : KS K z σ a) (hv : vK K z σ v) : clK K z σ' ∧ frK K z σ σ' := by
  cases ty <;> simp only [qq_put] at h <;> (try cases h) <;> cases v <;> (try cases h) <;> (try (obtain ⟨h1, h2⟩ := qq_if_some h; subst h2))
  all_goals first
    | exact K_wr hc ha
    | exact K_wL hc
    | exact K_wD hc
    | exact K_wR hc ha (hv _ rfl)
def okL (i : Instr) (lk : List Nat) : Bool := match i, lk with
  | .ldc _, [1, n, _] => decide (n < 70)
  | .ldc_w _, [1, n, _] => decide (n < 70)
  | _, _ => true
theorem st_K : ∀ x ∈ qq_stat, ∀ a, x.2.2.2 = .ref a → a < 70 := by
  intro x hx a e
  unfold qq_stat at hx
  simp only [List.mem_cons, List.not_mem_nil, or_false] at hx
  rcases hx with rfl | rfl | rfl | rfl | rfl | rfl | rfl <;> first | (cases e; done) | (cases e; decide)
theorem K_push {v : Value} {st : List Value} (hc : clK K z σ) (hs : ∀ v ∈ st, vK K z σ v) (hv : vK K z σ v) : clK K z σ ∧ frK K z σ σ ∧ ∀ w ∈ v :: st, vK K z σ w :=
  ⟨hc, frK_rf, fun w hw => by
    rcases List.mem_cons.mp hw with rfl | h
    · exact hv
    · exact hs w h⟩
theorem K_st {st : List Value} (h : clK K z σ' ∧ frK K z σ σ') (hs : ∀ v ∈ st, vK K z σ v) : clK K z σ' ∧ frK K z σ σ' ∧ ∀ w ∈ st, vK K z σ' w := ⟨h.1, h.2, fun w hw => vK_up (hs w hw) h.2.1⟩
theorem K_sr {st : List Value} {a : Nat} (h : clK K z σ' ∧ frK K z σ σ') (hs : ∀ v ∈ st, vK K z σ v) (ha : KS K z σ' a) : clK K z σ' ∧ frK K z σ σ' ∧ ∀ w ∈ Value.ref a :: st, vK K z σ' w :=
  ⟨h.1, h.2, fun w hw => by
    rcases List.mem_cons.mp hw with rfl | q
    · exact vK_ref ha
    · exact vK_up (hs w q) h.2.1⟩
theorem tl1 {x : Value} {st : List Value} (hv : ∀ v ∈ x :: st, vK K z σ v) : ∀ v ∈ st, vK K z σ v := fun v h => hv v (List.mem_cons_of_mem _ h)
theorem hd1 {x : Value} {st : List Value} (hv : ∀ v ∈ x :: st, vK K z σ v) : vK K z σ x := hv x List.mem_cons_self
theorem frm_hp {i : Instr} {lk : List Nat} {st st' : List Value} (hs : qq_hp i lk st σ = some (st', σ')) (hl : okL i lk = true) (hc : clK K z σ) (hv : ∀ v ∈ st, vK K z σ v) : clK K z σ' ∧ frK K z σ σ' ∧ ∀ v ∈ st', vK K z σ' v := by
  unfold qq_hp at hs
  split at hs
  · -- getfield
    rename_i ix c k w1 w2 a st
    obtain ⟨⟨h1, h2⟩, h3⟩ := qq_if_some2 hs
    cases h3
    have ha := hd1 hv a rfl
    have h2' := Nat.lt_of_lt_of_le h2 nr_le
    refine K_push hc (tl1 hv) (val_K (fun q => hc.2.2.2 a ha k (Or.inl ?_)))
    rw [h1]
    exact ⟨nf_100 h2', h2', q⟩
  · -- putfield
    rename_i ix c k w1 w2 v a st
    obtain ⟨h1, h4⟩ := qq_if_some2 hs
    obtain ⟨σ9, h5, h6⟩ := Option.map_eq_some_iff.mp h4
    cases h6
    exact K_st (K_put h5 hc (hd1 (tl1 hv) a rfl) (hd1 hv)) (tl1 (tl1 hv))
  · -- getstatic
    obtain ⟨q, h1, h2⟩ := Option.map_eq_some_iff.mp hs
    cases h2
    exact K_push hc hv (fun a e => KS_0 hc (st_K q (List.mem_of_getElem? h1) a e))
  · cases hs; exact K_push hc hv vK_int
  · cases hs; exact K_push hc hv (vK_ref (KS_0 hc (of_decide_eq_true hl)))
  · cases hs; exact K_push hc hv (vK_ref (KS_0 hc (of_decide_eq_true hl)))
  · cases hs; exact K_push hc hv vK_int
  · obtain ⟨h1, h3⟩ := qq_if_some2 hs; cases h3; exact K_push hc (tl1 hv) vK_int
  · obtain ⟨h1, h3⟩ := qq_if_some2 hs; cases h3; exact K_push hc (tl1 (tl1 hv)) vK_int
  · obtain ⟨h1, h3⟩ := qq_if_some2 hs; cases h3; exact K_push hc (tl1 (tl1 hv)) vK_int
  · obtain ⟨h1, h3⟩ := qq_if_some2 hs; cases h3; exact K_push hc (tl1 (tl1 hv)) vK_long
  · -- aaload
    rename_i x i a st
    obtain ⟨h1, h3⟩ := qq_if_some2 hs
    cases h3
    refine K_push hc (tl1 (tl1 hv)) (vK_ref (hc.2.2.2 a (hd1 (tl1 hv) a rfl) _ (Or.inr ⟨h1.1, ?_⟩)))
    exact Nat.not_le.mp fun q => h1.2 (Or.inr q)
  · obtain ⟨h1, h3⟩ := qq_if_some2 hs; cases h3; exact K_st (K_wr hc (hd1 (tl1 (tl1 hv)) _ rfl)) (tl1 (tl1 (tl1 hv)))
  · obtain ⟨h1, h3⟩ := qq_if_some2 hs; cases h3; exact K_st (K_wr hc (hd1 (tl1 (tl1 hv)) _ rfl)) (tl1 (tl1 (tl1 hv)))
  · obtain ⟨h1, h3⟩ := qq_if_some2 hs; cases h3; exact K_st (K_wL hc) (tl1 (tl1 (tl1 hv)))
  · obtain ⟨h1, h3⟩ := qq_if_some2 hs; cases h3; exact K_st (K_wR hc (hd1 (tl1 (tl1 hv)) _ rfl) (hd1 hv _ rfl)) (tl1 (tl1 (tl1 hv)))
  · cases hs; exact K_sr (K_nw hc) hv (Or.inr ⟨hc.1, Nat.lt_succ_self _⟩)
  · obtain ⟨h1, h3⟩ := qq_if_some2 hs; cases h3; exact K_sr (K_nw hc) (tl1 hv) (Or.inr ⟨hc.1, Nat.lt_succ_self _⟩)
  · obtain ⟨h1, h3⟩ := qq_if_some2 hs; cases h3; exact K_sr (K_nw hc) (tl1 hv) (Or.inr ⟨hc.1, Nat.lt_succ_self _⟩)
  · -- multianewarray
    rename_i ix w1 w2 w3 k n st
    obtain ⟨h1, h3⟩ := qq_if_some2 hs
    cases h3
    refine K_sr (K_gr hc) (tl1 (tl1 hv)) (Or.inr ⟨hc.1, ?_⟩)
    show sz_S σ < sz_S σ + 1 + n.toNatClampNeg
    omega
  · -- arraycopy
    obtain ⟨h1, h3⟩ := qq_if_some2 hs; cases h3
    exact K_st (K_cp hc (hd1 (tl1 (tl1 hv)) _ rfl)) (tl1 (tl1 (tl1 (tl1 (tl1 hv)))))
  · obtain ⟨h1, h3⟩ := qq_if_some2 hs; cases h3; exact K_push hc (tl1 (tl1 hv)) vK_int
  · obtain ⟨h1, h3⟩ := qq_if_some2 hs; cases h3; exact K_push hc (tl1 (tl1 hv)) vK_int
  · obtain ⟨h1, h3⟩ := qq_if_some2 hs; cases h3; exact K_st ⟨hc, frK_rf⟩ (tl1 hv)
  · -- clone
    rename_i ix w1 w2 w3 w4 w5 w6 a st
    obtain ⟨h1, h3⟩ := qq_if_some2 hs; cases h3
    have k1 := K_nw (n := 1) (kd := (102, (kd_S σ a).2)) (s := (kd_S σ a).2) hc
    have kz : KS K z (nw_S σ 1 (102, (kd_S σ a).2) (kd_S σ a).2) (sz_S σ) := Or.inr ⟨hc.1, Nat.lt_succ_self _⟩
    have k2 := K_cp (a := a) (sp := 0) (b := sz_S σ) (dp := 0) (n := (kd_S σ a).2) k1.1 kz
    exact K_sr ⟨k2.1, frK_tr k1.2 k2.2⟩ (tl1 hv) kz
  · -- cast
    rename_i ix w1 a st
    obtain ⟨h1, h3⟩ := qq_if_some2 hs; cases h3
    exact ⟨hc, frK_rf, hv⟩
  · cases hs
theorem cst_K {i : Instr} {v : Value} (h : qq_cst i = some v) (hc : clK K z σ) : vK K z σ v := by
  intro a e
  subst e
  unfold qq_cst at h
  split at h <;> first | (cases h; exact KS_0 hc (by omega)) | (cases h; done) | (split at h <;> cases h)
theorem un_K {i : Instr} {x v : Value} (h : qq_un i x = some v) : vK K z σ v := by
  intro a e
  subst e
  unfold qq_un at h
  split at h <;> first | (cases h; done) | (obtain ⟨-, h2⟩ := qq_if_some h; cases h2)
theorem bin_K {i : Instr} {x y v : Value} (h : qq_bin i y x = some v) : vK K z σ v := by
  intro a e
  subst e
  unfold qq_bin at h
  split at h <;> first | (cases h; done) | (obtain ⟨-, h2⟩ := qq_if_some h; cases h2)
theorem shf_K {i : Instr} {st st' : List Value} (h : qq_shf i st = some st') (hv : ∀ v ∈ st, vK K z σ v) : ∀ v ∈ st', vK K z σ v := by
  unfold qq_shf at h
  split at h <;> first | (cases h; done) | (split at h <;> cases h)
  all_goals
    intro v hm
    simp only [List.mem_cons] at hm hv
    exact hv v (by first | exact hm | (rcases hm with r | r | r | r | r <;> simp [r]) | (rcases hm with r | r | r | r <;> simp [r]) | (rcases hm with r | r | r <;> simp [r]) | exact Or.inr hm)
theorem br_K {i : Instr} {st st' : List Value} {b : Bool} (h : qq_br i st = some (b, st')) (hv : ∀ v ∈ st, vK K z σ v) : ∀ v ∈ st', vK K z σ v := by
  unfold qq_br at h
  split at h <;> first | (cases h; first | exact hv | exact tl1 hv | exact tl1 (tl1 hv)) | (split at h <;> cases h; exact tl1 hv) | (cases h; done)
def lsK (K : Nat → Prop) (z : Nat) (σ : qq_S) (ls : List (Option Value)) : Prop := ∀ (i : Nat) (v : Value), ls[i]? = some (some v) → vK K z σ v
theorem lsK_up {ls : List (Option Value)} (h : lsK K z σ ls) (hs : sz_S σ ≤ sz_S σ') : lsK K z σ' ls := fun i v e => vK_up (h i v e) hs
theorem lsK_set {ls : List (Option Value)} {i : Nat} {v : Value} (h : lsK K z σ ls) (hv : vK K z σ v) : lsK K z σ (qq_set ls i v) := fun j w hw => by
  rcases qq_set_get hw with ⟨-, rfl⟩ | ⟨-, h2, -⟩
  · exact hv
  · exact h j w h2
theorem frm_step {m j j' : Nat} {e : qq_E} {ls ls' : List (Option Value)} {st st' : List Value} (hs : qq_step m e j ls st σ = some (.inl (j', ls', st', σ'))) (hl : okL e.2.1 e.2.2.2 = true) (hc : clK K z σ) (hls : lsK K z σ ls) (hv : ∀ v ∈ st, vK K z σ v) : clK K z σ' ∧ frK K z σ σ' ∧ lsK K z σ' ls' ∧ ∀ v ∈ st', vK K z σ' v := by
  unfold qq_step at hs
  split at hs
  · split at hs
    · rename_i v hq; cases hs; obtain ⟨a, b, c⟩ := K_push hc hv (cst_K hq hc); exact ⟨a, b, hls, c⟩
    · cases hs
  · split at hs
    · split at hs
      · rename_i v hq
        split at hs <;> cases hs
        obtain ⟨a, b, c⟩ := K_push hc hv (hls _ _ hq); exact ⟨a, b, hls, c⟩
      · cases hs
    · cases hs
  · split at hs
    · split at hs <;> cases hs
      exact ⟨hc, frK_rf, lsK_set hls (hd1 hv), tl1 hv⟩
    · cases hs
  · split at hs
    · split at hs
      · rename_i v hq; cases hs; obtain ⟨a, b, c⟩ := K_push hc (tl1 hv) (un_K (K := K) (z := z) (σ := σ) hq); exact ⟨a, b, hls, c⟩
      · cases hs
    · cases hs
  · split at hs
    · split at hs
      · rename_i v hq; cases hs; obtain ⟨a, b, c⟩ := K_push hc (tl1 (tl1 hv)) (bin_K (K := K) (z := z) (σ := σ) hq); exact ⟨a, b, hls, c⟩
      · cases hs
    · cases hs
  · split at hs
    · rename_i hq; cases hs; exact ⟨hc, frK_rf, hls, shf_K hq hv⟩
    · cases hs
  · split at hs
    · rename_i hq _; cases hs; exact ⟨hc, frK_rf, hls, br_K hq hv⟩
    · cases hs
  · split at hs
    · split at hs
      · split at hs <;> cases hs
        exact ⟨hc, frK_rf, hls, tl1 hv⟩
      · cases hs
    · cases hs
  · split at hs
    · split at hs
      · cases hs; exact ⟨hc, frK_rf, lsK_set hls vK_int, hv⟩
      · cases hs
    · cases hs
  · split at hs
    · rename_i hq; cases hs
      obtain ⟨a, b, c⟩ := frm_hp hq hl hc hv
      exact ⟨a, b, lsK_up hls b.1, c⟩
    · cases hs
  · split at hs <;> cases hs
  · split at hs <;> cases hs
  · split at hs
    · split at hs <;> cases hs
    · cases hs
  · cases hs
theorem sl_K {av : List Value} (hv : ∀ v ∈ av, vK K z σ v) : ∀ w, some w ∈ qq_sl av → vK K z σ w := by
  induction av with
  | nil => intro w hw; cases hw
  | cons x av ih =>
    intro w hw
    unfold qq_sl at hw
    split at hw
    · simp only [List.mem_cons, Option.some.injEq, reduceCtorEq, false_or] at hw
      rcases hw with rfl | hw
      · exact hd1 hv
      · exact ih (tl1 hv) w hw
    · simp only [List.mem_cons, Option.some.injEq] at hw
      rcases hw with rfl | hw
      · exact hd1 hv
      · exact ih (tl1 hv) w hw
theorem ent_K {n : Nat} {av : List Value} (hv : ∀ v ∈ av, vK K z σ v) : lsK K z σ (qq_ent n av) := fun i v e => by
  have hm := List.mem_of_getElem? e
  rcases List.mem_append.mp hm with h | h
  · exact sl_K hv v h
  · exact absurd (List.eq_of_mem_replicate h) (fun q => nomatch q)
theorem rt_K {m : Nat} {i : Instr} {st : List Value} {r : Option Value} (h : qq_rt m i st = some r) (hv : ∀ v ∈ st, vK K z σ v) : ∀ v, r = some v → vK K z σ v := by
  intro v e
  subst e
  unfold qq_rt at h
  split at h
  · split at h
    · obtain ⟨-, h2⟩ := qq_if_some h; cases h2; exact vK_int
    · cases h
  · obtain ⟨-, h2⟩ := qq_if_some h; cases h2; exact fun _ e => nomatch e
  · obtain ⟨-, h2⟩ := qq_if_some h; cases h2; exact fun _ e => nomatch e
  · split at h <;> cases h <;> exact hd1 hv
  · obtain ⟨-, h2⟩ := qq_if_some h; cases h2
  · cases h
theorem frm_run (hok : ∀ (m j : Nat) (e : qq_E), qq_T m j = some e → okL e.2.1 e.2.2.2 = true) : ∀ (n d m j : Nat) (ls : List (Option Value)) (st : List Value) (σ : qq_S) (o : qq_O) (σf : qq_S), qq_run n d m j ls st σ = some (o, σf) → clK K z σ → lsK K z σ ls → (∀ v ∈ st, vK K z σ v) → clK K z σf ∧ frK K z σ σf ∧ ∀ v, o = .inl (some v) → vK K z σf v := by
  intro n
  induction n with
  | zero => intro d m j ls st σ o σf h; simp [qq_run] at h
  | succ n ih =>
    intro d m j ls st σ o σf h hc hls hv
    rw [qq_run] at h
    split at h
    · cases h
    · rename_i e he
      have hl := hok m j e he
      split at h
      · cases h
      · rename_i j' ls' st' σ' hs
        obtain ⟨a1, a2, a3, a4⟩ := frm_step hs hl hc hls hv
        obtain ⟨b1, b2, b3⟩ := ih _ _ _ _ _ _ _ _ h a1 a3 a4
        exact ⟨b1, frK_tr a2 b2, b3⟩
      · rename_i c args rest hs
        have hcal : (∀ v ∈ args, vK K z σ v) ∧ ∀ v ∈ rest, vK K z σ v := by
          unfold qq_step at hs
          repeat' split at hs
          all_goals first | (cases hs; done) | skip
          rename_i cc hcc
          cases hs
          unfold qq_cal at hcc
          split at hcc
          · obtain ⟨-, h2⟩ := qq_if_some hcc
            cases h2
            exact ⟨fun v hm => hv v (List.mem_of_mem_take (List.mem_reverse.mp hm)), fun v hm => hv v (List.mem_of_mem_drop hm)⟩
          · cases hcc
        split at h
        · cases h
        · rename_i d'
          split at h
          · cases h
          · rename_i v σ' hr
            obtain ⟨a1, a2, a3⟩ := ih _ _ _ _ _ _ _ _ hr hc (ent_K hcal.1) (fun v hm => nomatch hm)
            obtain ⟨b1, b2, b3⟩ := ih _ _ _ _ _ _ _ _ h a1 (lsK_up hls a2.1) (fun w hw => by
              rcases List.mem_append.mp hw with q | q
              · cases v with
                | none => cases q
                | some x =>
                  have : w = x := by simpa using q
                  rw [this]; exact a3 x rfl
              · exact vK_up (hcal.2 w q) a2.1)
            exact ⟨b1, frK_tr a2 b2, b3⟩
          · rename_i x σ' hr
            obtain ⟨a1, a2, a3⟩ := ih _ _ _ _ _ _ _ _ hr hc (ent_K hcal.1) (fun v hm => nomatch hm)
            split at h
            · cases h
              exact ⟨a1, a2, fun v e => nomatch e⟩
            · split at h
              · cases h
              · rename_i hd hhd
                obtain ⟨b1, b2, b3⟩ := ih _ _ _ _ _ _ _ _ h a1 (fun i v e => by
                  rw [List.getElem?_set] at e
                  split at e
                  · split at e <;> cases e
                  · exact lsK_set (lsK_up hls a2.1) (vK_ref (KS_0 a1 (by omega))) i v e) (fun v hm => nomatch hm)
                exact ⟨b1, frK_tr a2 b2, b3⟩
      · rename_i v hs
        cases h
        refine ⟨hc, frK_rf, fun w e => ?_⟩
        cases e
        unfold qq_step at hs
        repeat' split at hs
        all_goals first | (cases hs; done) | skip
        rename_i r hr
        cases hs
        exact rt_K hr hv w rfl
      · rename_i x hs
        cases h
        obtain ⟨a1, a2⟩ := K_nw (n := 1) (kd := (201, 0)) (s := 6) hc
        exact ⟨a1, a2, fun v e => nomatch e⟩
end FM
theorem okL_all : (qq_tab.all (fun t => t.all (fun e => okL e.2.1 e.2.2.2))) = true := by decide +kernel
theorem okL_T (m j : Nat) (e : qq_E) (h : qq_T m j = some e) : okL e.2.1 e.2.2.2 = true := by
  unfold qq_T at h
  have hm : e ∈ qq_tab.getD m [] := List.mem_of_getElem? h
  rcases Nat.lt_or_ge m qq_tab.length with q | q
  · have ht : qq_tab.getD m [] ∈ qq_tab := by
      rw [List.getD_eq_getElem?_getD, List.getElem?_eq_getElem q]
      exact List.getElem_mem q
    exact List.all_eq_true.mp (List.all_eq_true.mp okL_all _ ht) e hm
  · rw [List.getD_eq_getElem?_getD, List.getElem?_eq_none q] at hm
    cases hm
theorem frm_CC {K : Nat → Prop} {z d m : Nat} {av : List Value} {σ σf : qq_S} {o : qq_O} (h : CC d m av σ = some (o, σf)) (hc : clK K z σ) (hv : ∀ v ∈ av, vK K z σ v) : clK K z σf ∧ frK K z σ σf ∧ ∀ v, o = .inl (some v) → vK K z σf v := by
  obtain ⟨n, hn⟩ := RR_iff.mp h
  exact frm_run okL_T n d m 0 _ _ _ _ _ hn hc (ent_K hv) (fun v hm => nomatch hm)
