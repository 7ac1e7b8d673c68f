/-! THE DOCKET: keeping the best bails is as good as trying every set -/
def wk (L V : Nat → Nat) (f : Nat) (ch : Nat → Bool) : Nat → Option (Nat × Nat)
  | 0 => some (0, 0)
  | r + 1 => match wk L V f ch r with
    | none => none
    | some (c, v) => if ch r = true then (if L r < f + c then none else some (c + 1, v + V r)) else some (c, v)
def gg (L V : Nat → Nat) (f : Nat) : Nat → List Nat
  | 0 => []
  | r + 1 => (insD (V r) (gg L V f r)).take (L r + 1 - f)
def vlC (V : Nat → Nat) (ch : Nat → Bool) : Nat → List Nat
  | 0 => []
  | n + 1 => if ch n = true then V n :: vlC V ch n else vlC V ch n
def vs (V : Nat → Nat) (ch : Nat → Bool) (n : Nat) : Nat := su (fun r => if ch r = true then V r else 0) n
def okW (L : Nat → Nat) (f : Nat) (ch : Nat → Bool) (n : Nat) : Prop := ∀ r, r < n → ch r = true → f + cn ch r ≤ L r
section GG
variable {L V : Nat → Nat} {f : Nat}
theorem vs_y {ch : Nat → Bool} {n : Nat} (h : ch n = true) : vs V ch (n + 1) = vs V ch n + V n := by
  show su _ n + (if ch n = true then V n else 0) = _
  rw [if_pos h]; rfl
theorem vs_n {ch : Nat → Bool} {n : Nat} (h : ¬ ch n = true) : vs V ch (n + 1) = vs V ch n := by
  show su _ n + (if ch n = true then V n else 0) = _
  rw [if_neg h]; rfl
theorem wk_some {ch : Nat → Bool} : ∀ n, okW L f ch n → wk L V f ch n = some (cn ch n, vs V ch n) := by
  intro n
  induction n with
  | zero => intro _; rfl
  | succ n ih =>
    intro h
    rw [wk, ih (fun r hr => h r (by omega))]
    dsimp only
    by_cases y : ch n = true
    · have := h n (Nat.lt_succ_self _) y
      rw [if_pos y, if_neg (by omega), cn_y y, vs_y y]
    · rw [if_neg y, cn_n y, vs_n y]
theorem wk_none {ch : Nat → Bool} : ∀ n, ¬ okW L f ch n → wk L V f ch n = none := by
  intro n
  induction n with
  | zero => intro h; exact absurd (fun r hr => absurd hr (Nat.not_lt_zero _)) h
  | succ n ih =>
    intro h
    by_cases z : okW L f ch n
    · rw [wk, wk_some n z]
      dsimp only
      by_cases y : ch n = true
      · by_cases x : f + cn ch n ≤ L n
        · exact absurd (fun r hr hc => by
            by_cases e : r = n
            · rw [e]; exact x
            · exact z r (by omega) hc) h
        · rw [if_pos y, if_pos (by omega)]
      · exact absurd (fun r hr hc => by
          by_cases e : r = n
          · rw [e] at hc; exact absurd hc y
          · exact z r (by omega) hc) h
    · rw [wk, ih z]
theorem take_one {a : Nat} : ∀ (l : List Nat) c, (∀ x ∈ l, x ≤ a) → (l.take (c + 1)).sum ≤ (l.take c).sum + a := by
  intro l
  induction l with
  | nil => intro c _; simp
  | cons b l ih =>
    intro c h
    cases c with
    | zero =>
      have := h b List.mem_cons_self
      simp; omega
    | succ c =>
      have := ih c (fun x hx => h x (List.mem_cons_of_mem _ hx))
      rw [List.take_succ_cons, List.take_succ_cons, List.sum_cons, List.sum_cons]
      omega
theorem ins_ge {v : Nat} : ∀ (G : List Nat) c, dsc G → (G.take c).sum ≤ ((insD v G).take c).sum := by
  intro G
  induction G with
  | nil => intro c _; simp
  | cons a l ih =>
    intro c h
    obtain ⟨h1, h2⟩ := List.pairwise_cons.mp h
    cases c with
    | zero => simp
    | succ c =>
      rw [insD]
      split
      · rename_i hav
        rw [List.take_succ_cons, List.take_succ_cons, List.sum_cons, List.sum_cons]
        cases c with
        | zero => simp; omega
        | succ c =>
          have := take_one (a := a) l c h1
          rw [List.take_succ_cons, List.sum_cons]
          omega
      · rw [List.take_succ_cons, List.take_succ_cons, List.sum_cons, List.sum_cons]
        have := ih c h2
        omega
theorem ins_ge2 {v : Nat} : ∀ (G : List Nat) c, (G.take c).sum + v ≤ ((insD v G).take (c + 1)).sum := by
  intro G
  induction G with
  | nil => intro c; rw [insD]; simp
  | cons a l ih =>
    intro c
    rw [insD]
    split
    · rw [List.take_succ_cons, List.sum_cons]; omega
    · rename_i hav
      rw [List.take_succ_cons, List.sum_cons]
      cases c with
      | zero => simp; omega
      | succ c =>
        have := ih c
        rw [List.take_succ_cons, List.sum_cons]
        omega
theorem gg_dsc : ∀ r, dsc (gg L V f r) := by
  intro r
  induction r with
  | zero => exact List.Pairwise.nil
  | succ r ih => rw [gg]; exact (insD_dsc ih).sublist (List.take_sublist _ _)
theorem gg_len1 (r : Nat) : (gg L V f (r + 1)).length = min (L r + 1 - f) ((gg L V f r).length + 1) := by rw [gg, List.length_take, insD_len]
theorem gg_len {N : Nat} (hm : ∀ r s, r ≤ s → s < N → L r ≤ L s) : ∀ r, r < N → (gg L V f r).length ≤ L r + 1 - f := by
  intro r
  cases r with
  | zero => intro _; exact Nat.zero_le _
  | succ r =>
    intro h
    have := gg_len1 (L := L) (V := V) (f := f) r
    have := hm r (r + 1) (by omega) h
    omega
theorem gg_up {N : Nat} (hm : ∀ r s, r ≤ s → s < N → L r ≤ L s) {ch : Nat → Bool} : ∀ n, n ≤ N → okW L f ch n → cn ch n ≤ (gg L V f n).length ∧ vs V ch n ≤ ((gg L V f n).take (cn ch n)).sum := by
  intro n
  induction n with
  | zero => intro _ _; exact ⟨Nat.le_refl _, Nat.zero_le _⟩
  | succ n ih =>
    intro hn h
    obtain ⟨i1, i2⟩ := ih (by omega) (fun r hr => h r (by omega))
    have hl := gg_len (V := V) (f := f) hm n (by omega)
    have hl1 := gg_len1 (L := L) (V := V) (f := f) n
    by_cases y : ch n = true
    · have hk := h n (Nat.lt_succ_self _) y
      rw [cn_y y, vs_y y]
      refine ⟨by omega, ?_⟩
      rw [gg, List.take_take, Nat.min_eq_left (by omega)]
      have := ins_ge2 (v := V n) (gg L V f n) (cn ch n)
      omega
    · rw [cn_n y, vs_n y]
      refine ⟨by omega, ?_⟩
      rw [gg, List.take_take, Nat.min_eq_left (by omega)]
      have := ins_ge (v := V n) (gg L V f n) (cn ch n) (gg_dsc n)
      omega
theorem vl_len {ch : Nat → Bool} : ∀ n, (vlC V ch n).length = cn ch n := by
  intro n
  induction n with
  | zero => rfl
  | succ n ih =>
    rw [vlC]
    by_cases y : ch n = true
    · rw [if_pos y, cn_y y, List.length_cons, ih]
    · rw [if_neg y, cn_n y, ih]
theorem vl_sum {ch : Nat → Bool} : ∀ n, (vlC V ch n).sum = vs V ch n := by
  intro n
  induction n with
  | zero => rfl
  | succ n ih =>
    rw [vlC]
    by_cases y : ch n = true
    · rw [if_pos y, vs_y y, List.sum_cons, ih, Nat.add_comm]
    · rw [if_neg y, vs_n y, ih]
theorem vl_cong {ch ch' : Nat → Bool} : ∀ n, (∀ k, k < n → ch k = ch' k) → vlC V ch n = vlC V ch' n := by
  intro n
  induction n with
  | zero => intro _; rfl
  | succ n ih => intro h; rw [vlC, vlC, h n (Nat.lt_succ_self _), ih (fun k hk => h k (by omega))]
theorem vl_mem {ch : Nat → Bool} {x : Nat} : ∀ n, x ∈ vlC V ch n → ∃ j, j < n ∧ ch j = true ∧ V j = x := by
  intro n
  induction n with
  | zero => intro h; exact absurd h List.not_mem_nil
  | succ n ih =>
    intro h
    rw [vlC] at h
    by_cases y : ch n = true
    · rw [if_pos y] at h
      rcases List.mem_cons.mp h with h | h
      · exact ⟨n, Nat.lt_succ_self _, y, h.symm⟩
      · obtain ⟨j, h1, h2⟩ := ih h
        exact ⟨j, by omega, h2⟩
    · rw [if_neg y] at h
      obtain ⟨j, h1, h2⟩ := ih h
      exact ⟨j, by omega, h2⟩
def rmC (ch : Nat → Bool) (j : Nat) : Nat → Bool := fun i => if i = j then false else ch i
theorem vl_rm {ch : Nat → Bool} {j : Nat} (hj : ch j = true) : ∀ n, j < n → (V j :: vlC V (rmC ch j) n).Perm (vlC V ch n) := by
  intro n
  induction n with
  | zero => intro h; omega
  | succ n ih =>
    intro h
    rw [vlC, vlC]
    by_cases e : j = n
    · subst e
      rw [if_pos hj, if_neg (show ¬ rmC ch j j = true by unfold rmC; rw [if_pos rfl]; decide)]
      rw [vl_cong (ch := rmC ch j) (ch' := ch) j (fun k hk => if_neg (by omega))]
    · have i := ih (by omega)
      have e2 : rmC ch j n = ch n := if_neg (by omega)
      rw [e2]
      by_cases y : ch n = true
      · rw [if_pos y, if_pos y]
        exact (List.Perm.swap _ _ _).trans (i.cons _)
      · rw [if_neg y, if_neg y]
        exact i
theorem cn_rm {ch : Nat → Bool} {j : Nat} : ∀ n, cn (rmC ch j) n ≤ cn ch n := by
  intro n
  induction n with
  | zero => exact Nat.le_refl _
  | succ n ih =>
    by_cases y : ch n = true
    · rw [cn_y y]
      by_cases z : rmC ch j n = true
      · rw [cn_y z]; omega
      · rw [cn_n z]; omega
    · have z : ¬ rmC ch j n = true := by
        unfold rmC
        split
        · decide
        · exact y
      rw [cn_n y, cn_n z]; exact ih
def adC (ch : Nat → Bool) (n : Nat) (b : Bool) : Nat → Bool := fun i => if i = n then b else ch i
theorem okW_ad {ch : Nat → Bool} {n : Nat} {b : Bool} (h : okW L f ch n) (hb : b = true → f + cn ch n ≤ L n) : okW L f (adC ch n b) (n + 1) := by
  intro r hr hc
  have e : cn (adC ch n b) r = cn ch r := cn_cong r (fun k hk => if_neg (by omega))
  rw [e]
  by_cases y : r = n
  · subst y
    unfold adC at hc
    rw [if_pos rfl] at hc
    exact hb hc
  · unfold adC at hc
    rw [if_neg y] at hc
    exact h r (by omega) hc
theorem vl_ad {ch : Nat → Bool} {n : Nat} {b : Bool} : vlC V (adC ch n b) (n + 1) = if b = true then V n :: vlC V ch n else vlC V ch n := by
  rw [vlC, vl_cong (ch := adC ch n b) (ch' := ch) n (fun k hk => if_neg (by omega))]
  have e : adC ch n b n = b := if_pos rfl
  rw [e]
theorem gg_ex {N : Nat} (hm : ∀ r s, r ≤ s → s < N → L r ≤ L s) : ∀ n, n ≤ N → ∃ ch, okW L f ch n ∧ (vlC V ch n).Perm (gg L V f n) := by
  intro n
  induction n with
  | zero => intro _; exact ⟨fun _ => false, fun r hr => absurd hr (Nat.not_lt_zero _), List.Perm.refl _⟩
  | succ n ih =>
    intro hn
    obtain ⟨ch, h1, h2⟩ := ih (by omega)
    have hl := gg_len (V := V) (f := f) hm n (by omega)
    have hcn : cn ch n = (gg L V f n).length := by rw [← vl_len (V := V) n]; exact h2.length_eq
    by_cases y : (gg L V f n).length + 1 ≤ L n + 1 - f
    · refine ⟨adC ch n true, okW_ad h1 (fun _ => by omega), ?_⟩
      rw [vl_ad, if_pos rfl, gg, List.take_of_length_le (by rw [insD_len]; exact y)]
      exact (h2.cons _).trans (insD_perm _ _).symm
    · have hlen := insD_len (V n) (gg L V f n)
      have hk : L n + 1 - f < (insD (V n) (gg L V f n)).length := by omega
      have hX : (insD (V n) (gg L V f n)).take (L n + 1 - f) ++ [(insD (V n) (gg L V f n))[L n + 1 - f]] = insD (V n) (gg L V f n) := by
        rw [List.take_append_getElem, List.take_of_length_le (by omega)]
      have hp := insD_perm (V n) (gg L V f n)
      generalize (insD (V n) (gg L V f n))[L n + 1 - f] = x at hX
      have hg : gg L V f (n + 1) = (insD (V n) (gg L V f n)).take (L n + 1 - f) := rfl
      rw [hg]
      generalize insD (V n) (gg L V f n) = X at *
      have hp2 : (x :: X.take (L n + 1 - f)).Perm (V n :: gg L V f n) := by
        refine List.Perm.trans ?_ hp
        have e3 := (List.perm_append_singleton x (X.take (L n + 1 - f))).symm
        rw [hX] at e3
        exact e3
      by_cases z : x = V n
      · subst z
        refine ⟨adC ch n false, okW_ad h1 (fun q => Bool.noConfusion q), ?_⟩
        rw [vl_ad, if_neg (by decide)]
        exact h2.trans ((List.perm_cons _).mp hp2).symm
      · have hx : x ∈ gg L V f n := (List.mem_cons.mp (hp2.mem_iff.mp List.mem_cons_self)).resolve_left z
        obtain ⟨j, j1, j2, j3⟩ := vl_mem n (h2.mem_iff.mpr hx)
        have hr := vl_rm (V := V) j2 n j1
        have hrl := hr.length_eq
        rw [List.length_cons, vl_len, vl_len] at hrl
        refine ⟨adC (rmC ch j) n true, okW_ad (fun r hr2 hc => ?_) (fun _ => by omega), ?_⟩
        · unfold rmC at hc
          by_cases e : r = j
          · rw [if_pos e] at hc; exact Bool.noConfusion hc
          · rw [if_neg e] at hc
            have := h1 r hr2 hc
            have := cn_rm (ch := ch) (j := j) r
            omega
        · rw [vl_ad, if_pos rfl]
          have e1 : (x :: V n :: vlC V (rmC ch j) n).Perm (x :: X.take (L n + 1 - f)) := by
            refine (List.Perm.swap _ _ _).trans ?_
            refine List.Perm.trans ?_ hp2.symm
            rw [← j3]
            exact (hr.trans h2).cons _
          exact (List.perm_cons _).mp e1
theorem wk_cong {ch ch' : Nat → Bool} : ∀ n, (∀ k, k < n → ch k = ch' k) → wk L V f ch n = wk L V f ch' n := by
  intro n
  induction n with
  | zero => intro _; rfl
  | succ n ih => intro h; rw [wk, wk, h n (Nat.lt_succ_self _), ih (fun k hk => h k (by omega))]
end GG
theorem vsr_wk (U : sU) (f s : Nat) : ∀ r, vsr U f s r = wk (fun r => la U (ow U r)) (fun r => ba U (ow U r)) f (fun r => decide (s / 2 ^ (ow U r) % 2 = 1)) r := by
  intro r
  induction r with
  | zero => rfl
  | succ r ih =>
    rw [vsr, wk, ih]
    cases wk (fun r => la U (ow U r)) (fun r => ba U (ow U r)) f (fun r => decide (s / 2 ^ (ow U r) % 2 = 1)) r with
    | none => rfl
    | some p => simp only [decide_eq_true_eq]
theorem gr_gg (U : sU) (f : Nat) : ∀ r, gr U f r = gg (fun r => la U (ow U r)) (fun r => ba U (ow U r)) f r := by
  intro r
  induction r with
  | zero => rfl
  | succ r ih => rw [gr, gg, ih]
theorem ow_inj {U : sU} {r s : Nat} (hr : r < un U) (hs : s < un U) (h : ow U r = ow U s) : r = s := by
  rcases Nat.lt_trichotomy r s with q | q | q
  · have := ow_ck (U := U) q hs
    unfold ck at this
    rw [h] at this
    omega
  · exact q
  · have := ow_ck (U := U) q hr
    unfold ck at this
    rw [h] at this
    omega
theorem mxs_ge {g : Nat → Nat} {s : Nat} : ∀ n, s < n → g s ≤ mxs g n := by
  intro n
  induction n with
  | zero => intro h; omega
  | succ n ih =>
    intro h
    rw [mxs]
    by_cases e : s = n
    · rw [e]; exact Nat.le_max_right _ _
    · exact Nat.le_trans (ih (by omega)) (Nat.le_max_left _ _)
theorem take_sum2 : ∀ (l : List Nat) c, (l.take c).sum ≤ l.sum := by
  intro l
  induction l with
  | nil => intro c; simp
  | cons a l ih =>
    intro c
    cases c with
    | zero => simp
    | succ c => rw [List.take_succ_cons, List.sum_cons, List.sum_cons]; have := ih c; omega
/-- the docket is worth what the best set is worth -/
theorem gr_mxs (U : sU) (f : Nat) : (gr U f (un U)).sum = mxs (vset U f) (2 ^ un U) := by
  have hm : ∀ r s, r ≤ s → s < un U → la U (ow U r) ≤ la U (ow U s) := fun r s h hs => ow_la h hs
  refine Nat.le_antisymm ?_ ?_
  · obtain ⟨ch, h1, h2⟩ := gg_ex (L := fun r => la U (ow U r)) (V := fun r => ba U (ow U r)) (f := f) (N := un U) hm (un U) (Nat.le_refl _)
    have hbit : ∀ r, r < un U → decide (mk (fun i => (List.range (un U)).any (fun r => (ow U r == i) && ch r)) (un U) / 2 ^ (ow U r) % 2 = 1) = ch r := fun r hr => by
      rw [mk_bit _ _ _ (ow_lt hr)]
      cases hc : ch r with
      | true =>
        rw [if_pos (List.any_eq_true.mpr ⟨r, List.mem_range.mpr hr, by rw [hc, beq_self_eq_true]; rfl⟩)]
        rfl
      | false =>
        rw [if_neg (fun q => by
          obtain ⟨r', q1, q2⟩ := List.any_eq_true.mp q
          rw [Bool.and_eq_true, beq_iff_eq] at q2
          rw [ow_inj (List.mem_range.mp q1) hr q2.1] at q2
          rw [hc] at q2
          exact Bool.noConfusion q2.2)]
        rfl
    have hv : vset U f (mk (fun i => (List.range (un U)).any (fun r => (ow U r == i) && ch r)) (un U)) = (gr U f (un U)).sum := by
      unfold vset
      rw [vsr_wk, wk_cong (ch' := ch) (un U) hbit, wk_some _ h1]
      show vs _ ch (un U) = _
      rw [← vl_sum, h2.sum_nat, gr_gg]
    rw [← hv]
    exact mxs_ge _ (mk_lt _ _)
  · refine mxs_le (fun s => ?_) _
    unfold vset
    rw [vsr_wk]
    by_cases h : okW (fun r => la U (ow U r)) f (fun r => decide (s / 2 ^ (ow U r) % 2 = 1)) (un U)
    · rw [wk_some _ h]
      have := (gg_up (L := fun r => la U (ow U r)) (V := fun r => ba U (ow U r)) (f := f) hm (un U) (Nat.le_refl _) h).2
      rw [← gr_gg] at this
      exact Nat.le_trans this (take_sum2 _ _)
    · rw [wk_none _ h]
      exact Nat.zero_le _
