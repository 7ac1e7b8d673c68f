/-! STATES AS NUMBERS -/
/-- the first of n numbers from i on with a property -/
def ff (f : Nat → Bool) : Nat → Nat → Option Nat
  | _, 0 => none
  | i, n + 1 => if f i = true then some i else ff f (i + 1) n
theorem ff_y {f : Nat → Bool} {i n : Nat} (h : f i = true) : ff f i (n + 1) = some i := if_pos h
theorem ff_n {f : Nat → Bool} {i n : Nat} (h : ¬ f i = true) : ff f i (n + 1) = ff f (i + 1) n := if_neg h
def oN : Option Nat → Int32
  | none => m1
  | some k => iN k
theorem ff_some {f : Nat → Bool} : ∀ (n i k : Nat), ff f i n = some k → i ≤ k ∧ k < i + n ∧ f k = true ∧ ∀ j, i ≤ j → j < k → ¬ f j = true := by
  intro n
  induction n with
  | zero => intro i k h; cases h
  | succ n ih =>
    intro i k h
    simp only [ff] at h
    by_cases hf : f i = true
    · rw [if_pos hf] at h
      cases h
      exact ⟨Nat.le_refl _, by omega, hf, fun j h1 h2 => by omega⟩
    · rw [if_neg hf] at h
      obtain ⟨h1, h2, h3, h4⟩ := ih _ _ h
      refine ⟨by omega, by omega, h3, fun j q1 q2 => ?_⟩
      by_cases hj : j = i
      · subst hj; exact hf
      · exact h4 j (by omega) q2
theorem ff_none {f : Nat → Bool} : ∀ (n i : Nat), ff f i n = none ↔ ∀ j, i ≤ j → j < i + n → ¬ f j = true := by
  intro n
  induction n with
  | zero => intro i; exact ⟨fun _ j h1 h2 => by omega, fun _ => rfl⟩
  | succ n ih =>
    intro i
    simp only [ff]
    by_cases hf : f i = true
    · rw [if_pos hf]
      exact ⟨(fun h => nomatch h), fun h => absurd hf (h i (Nat.le_refl _) (by omega))⟩
    · rw [if_neg hf, ih]
      constructor
      · intro h j q1 q2
        by_cases hj : j = i
        · subst hj; exact hf
        · exact h j (by omega) (by omega)
      · exact fun h j q1 q2 => h j (by omega) (by omega)
theorem ff_is {f : Nat → Bool} {n k : Nat} (h1 : k < n) (h2 : f k = true) (h3 : ∀ j, j < k → ¬ f j = true) : ff f 0 n = some k := by
  cases h : ff f 0 n with
  | none => exact absurd h2 ((ff_none n 0).mp h k (by omega) (by omega))
  | some j =>
    obtain ⟨-, h4, h5, h6⟩ := ff_some n 0 j h
    rcases Nat.lt_trichotomy j k with q | q | q
    · exact absurd h5 (h3 j q)
    · rw [q]
    · exact absurd h2 (h6 k (by omega) q)
theorem oN_m1 {o : Option Nat} (h : ∀ k, o = some k → k < 2147483648) : (oN o = m1) = (o = none) := by
  cases o with
  | none => exact (eq_true rfl).trans (eq_true rfl).symm
  | some k => exact (iN_ne_m1 (h k rfl)).trans (eq_false (fun z => nomatch z)).symm
/-- a function with one value changed -/
def fu {α : Type} (f : Nat → α) (k : Nat) (v : α) : Nat → α := fun j => if j = k then v else f j
theorem fu_at {α : Type} {f : Nat → α} {k : Nat} {v : α} : fu f k v k = v := if_pos rfl
theorem fu_ne {α : Type} {f : Nat → α} {k j : Nat} {v : α} (h : j ≠ k) : fu f k v j = f j := if_neg h
/-- a writ: id, statue, last night, bail, paid, cause (an id and 1, or 0) -/
abbrev sW : Type := Nat × Nat × Nat × Nat × Nat × Nat
def w_id (w : sW) : Nat := w.1
def w_of (w : sW) : Nat := w.2.1
def w_la (w : sW) : Nat := w.2.2.1
def w_ba (w : sW) : Nat := w.2.2.2.1
def w_pd (w : sW) : Nat := w.2.2.2.2.1
def w_ca (w : sW) : Nat := w.2.2.2.2.2
/-- pedestals, arrows, statues, weights, places, homes, the ranking -/
abbrev sP : Type := Nat × (Nat → Nat) × Nat × (Nat → Nat) × (Nat → Nat) × (Nat → Nat) × List Nat
def p_np (P : sP) : Nat := P.1
def p_ar (P : sP) : Nat → Nat := P.2.1
def p_ns (P : sP) : Nat := P.2.2.1
def p_we (P : sP) : Nat → Nat := P.2.2.2.1
def p_pl (P : sP) : Nat → Nat := P.2.2.2.2.1
def p_ho (P : sP) : Nat → Nat := P.2.2.2.2.2.1
def p_hf (P : sP) : List Nat := P.2.2.2.2.2.2
/-- the writs and the next id -/
abbrev sU : Type := List sW × Nat
/-- blocks, treasury, account -/
abbrev sM : Type := (Nat → Nat) × Int32 × Int32
/-- night, hearing night and 1 (0: none), upheld, dismissed, lapsed -/
abbrev sN : Type := Nat × Nat × Int32 × Int32 × Int32
abbrev sS : Type := sP × sU × sM × sN
def hv (we : Nat → Nat) (a b : Nat) : Prop := we b < we a ∨ we a = we b ∧ a < b
/-- a plaza as it must be -/
def wP (P : sP) : Prop := p_np P ≤ 8 ∧ p_ns P ≤ 6 ∧ (∀ k, k < p_np P → p_ar P k < p_np P) ∧ (∀ k, k < p_ns P → 1 ≤ p_we P k ∧ p_we P k ≤ 99 ∧ p_pl P k < p_np P ∧ p_ho P k < p_np P) ∧
  (∀ i j, i < p_ns P → j < p_ns P → p_pl P i = p_pl P j → i = j) ∧ (p_hf P).Perm (List.range (p_ns P)) ∧ (p_hf P).Pairwise (hv (p_we P))
/-- who stands on a pedestal -/
def onP (P : sP) (x : Nat) : Option Nat := ff (fun k => p_pl P k == x) 0 (p_ns P)
/-- a function again and again -/
def it (f : Nat → Nat) : Nat → Nat → Nat
  | 0, x => x
  | n + 1, x => it f n (f x)
theorem it_s (f : Nat → Nat) : ∀ n x, it f (n + 1) x = f (it f n x) := by
  intro n
  induction n with
  | zero => intro x; rfl
  | succ n ih => intro x; rw [it, ih]; rfl
theorem it_add (f : Nat → Nat) (m : Nat) : ∀ n x, it f (m + n) x = it f m (it f n x) := by
  intro n
  induction n with
  | zero => intro x; rfl
  | succ n ih => intro x; rw [show m + (n + 1) = (m + n) + 1 by omega, it, ih]; rfl
theorem it_lt {f : Nat → Nat} {n : Nat} (h : ∀ k, k < n → f k < n) : ∀ m x, x < n → it f m x < n := by
  intro m
  induction m with
  | zero => intro x hx; exact hx
  | succ m ih => intro x hx; exact ih _ (h x hx)
theorem it_cong {f g : Nat → Nat} {n : Nat} (h : ∀ k, k < n → f k < n) (hg : ∀ k, k < n → g k = f k) : ∀ m x, x < n → it g m x = it f m x := by
  intro m
  induction m with
  | zero => intro x hx; rfl
  | succ m ih => intro x hx; rw [it, it, hg x hx]; exact ih _ (h x hx)
theorem it_mul (f : Nat → Nat) (a : Nat) : ∀ m x, it (it f a) m x = it f (m * a) x := by
  intro m
  induction m with
  | zero => intro x; rw [Nat.zero_mul]; rfl
  | succ m ih => intro x; rw [it, ih, Nat.succ_mul, it_add]
/-- sums and counts -/
def su (f : Nat → Nat) : Nat → Nat
  | 0 => 0
  | n + 1 => su f n + f n
theorem su_le {f : Nat → Nat} {B : Nat} : ∀ n, (∀ k, k < n → f k ≤ B) → su f n ≤ n * B := by
  intro n
  induction n with
  | zero => intro _; exact Nat.zero_le _
  | succ n ih =>
    intro h
    have h1 := ih (fun k hk => h k (by omega))
    have h2 := h n (by omega)
    rw [su, Nat.succ_mul]; omega
theorem su_cong {f g : Nat → Nat} : ∀ n, (∀ k, k < n → f k = g k) → su f n = su g n := by
  intro n
  induction n with
  | zero => intro _; rfl
  | succ n ih => intro h; rw [su, su, ih (fun k hk => h k (by omega)), h n (by omega)]
def cn (f : Nat → Bool) (n : Nat) : Nat := su (fun k => if f k = true then 1 else 0) n
theorem cn_y {f : Nat → Bool} {n : Nat} (h : f n = true) : cn f (n + 1) = cn f n + 1 := by
  show su _ n + (if f n = true then 1 else 0) = _
  rw [if_pos h]; rfl
theorem cn_n {f : Nat → Bool} {n : Nat} (h : ¬ f n = true) : cn f (n + 1) = cn f n := by
  show su _ n + (if f n = true then 1 else 0) = _
  rw [if_neg h]; rfl
/-! WHAT THE CALLS DO TO A PLAZA -/
def sp_ped (P : sP) : sP := (p_np P + 1, fu (p_ar P) (p_np P) (p_np P), p_ns P, p_we P, p_pl P, p_ho P, p_hf P)
def sp_arr (P : sP) (x y : Nat) : sP := (p_np P, fu (p_ar P) x y, p_ns P, p_we P, p_pl P, p_ho P, p_hf P)
def sp_hom (P : sP) (x y : Nat) : sP := (p_np P, p_ar P, p_ns P, p_we P, p_pl P, fu (p_ho P) x y, p_hf P)
def sp_mov (P : sP) (x y : Nat) : sP := (p_np P, p_ar P, p_ns P, p_we P, fu (p_pl P) x y, p_ho P, p_hf P)
/-- how many of a ranking come before a new weight -/
def rk0 (we : Nat → Nat) (w : Nat) (hf : List Nat) : Nat := (hf.takeWhile (fun k => decide (w ≤ we k))).length
def sp_sta (P : sP) (x w : Nat) : sP := (p_np P, p_ar P, p_ns P + 1, fu (p_we P) (p_ns P) w, fu (p_pl P) (p_ns P) x, fu (p_ho P) (p_ns P) x,
  (p_hf P).take (rk0 (p_we P) w (p_hf P)) ++ p_ns P :: (p_hf P).drop (rk0 (p_we P) w (p_hf P)))
theorem ped_np {P : sP} : p_np (sp_ped P) = p_np P + 1 := rfl
theorem ped_ar {P : sP} : p_ar (sp_ped P) = fu (p_ar P) (p_np P) (p_np P) := rfl
theorem ped_ns {P : sP} : p_ns (sp_ped P) = p_ns P := rfl
theorem ped_we {P : sP} : p_we (sp_ped P) = p_we P := rfl
theorem ped_pl {P : sP} : p_pl (sp_ped P) = p_pl P := rfl
theorem ped_ho {P : sP} : p_ho (sp_ped P) = p_ho P := rfl
theorem ped_hf {P : sP} : p_hf (sp_ped P) = p_hf P := rfl
theorem arr_np {P : sP} {x y : Nat} : p_np (sp_arr P x y) = p_np P := rfl
theorem arr_ar {P : sP} {x y : Nat} : p_ar (sp_arr P x y) = fu (p_ar P) x y := rfl
theorem arr_ns {P : sP} {x y : Nat} : p_ns (sp_arr P x y) = p_ns P := rfl
theorem arr_we {P : sP} {x y : Nat} : p_we (sp_arr P x y) = p_we P := rfl
theorem arr_pl {P : sP} {x y : Nat} : p_pl (sp_arr P x y) = p_pl P := rfl
theorem arr_ho {P : sP} {x y : Nat} : p_ho (sp_arr P x y) = p_ho P := rfl
theorem arr_hf {P : sP} {x y : Nat} : p_hf (sp_arr P x y) = p_hf P := rfl
theorem hom_np {P : sP} {x y : Nat} : p_np (sp_hom P x y) = p_np P := rfl
theorem hom_ar {P : sP} {x y : Nat} : p_ar (sp_hom P x y) = p_ar P := rfl
theorem hom_ns {P : sP} {x y : Nat} : p_ns (sp_hom P x y) = p_ns P := rfl
theorem hom_we {P : sP} {x y : Nat} : p_we (sp_hom P x y) = p_we P := rfl
theorem hom_pl {P : sP} {x y : Nat} : p_pl (sp_hom P x y) = p_pl P := rfl
theorem hom_ho {P : sP} {x y : Nat} : p_ho (sp_hom P x y) = fu (p_ho P) x y := rfl
theorem hom_hf {P : sP} {x y : Nat} : p_hf (sp_hom P x y) = p_hf P := rfl
theorem mov_np {P : sP} {x y : Nat} : p_np (sp_mov P x y) = p_np P := rfl
theorem mov_ar {P : sP} {x y : Nat} : p_ar (sp_mov P x y) = p_ar P := rfl
theorem mov_ns {P : sP} {x y : Nat} : p_ns (sp_mov P x y) = p_ns P := rfl
theorem mov_we {P : sP} {x y : Nat} : p_we (sp_mov P x y) = p_we P := rfl
theorem mov_pl {P : sP} {x y : Nat} : p_pl (sp_mov P x y) = fu (p_pl P) x y := rfl
theorem mov_ho {P : sP} {x y : Nat} : p_ho (sp_mov P x y) = p_ho P := rfl
theorem mov_hf {P : sP} {x y : Nat} : p_hf (sp_mov P x y) = p_hf P := rfl
theorem sta_np {P : sP} {x w : Nat} : p_np (sp_sta P x w) = p_np P := rfl
theorem sta_ar {P : sP} {x w : Nat} : p_ar (sp_sta P x w) = p_ar P := rfl
theorem sta_ns {P : sP} {x w : Nat} : p_ns (sp_sta P x w) = p_ns P + 1 := rfl
theorem sta_we {P : sP} {x w : Nat} : p_we (sp_sta P x w) = fu (p_we P) (p_ns P) w := rfl
theorem sta_pl {P : sP} {x w : Nat} : p_pl (sp_sta P x w) = fu (p_pl P) (p_ns P) x := rfl
theorem sta_ho {P : sP} {x w : Nat} : p_ho (sp_sta P x w) = fu (p_ho P) (p_ns P) x := rfl
theorem sta_hf {P : sP} {x w : Nat} : p_hf (sp_sta P x w) = (p_hf P).take (rk0 (p_we P) w (p_hf P)) ++ p_ns P :: (p_hf P).drop (rk0 (p_we P) w (p_hf P)) := rfl
theorem wP_ped {P : sP} (h : wP P) (hn : p_np P < 8) : wP (sp_ped P) := by
  obtain ⟨np, ar, ns, we, pl, ho, hf⟩ := P
  obtain ⟨h1, h2, h3, h4, h5, h6⟩ := h
  dsimp only [p_np, p_ar, p_ns, p_we, p_pl, p_ho, p_hf] at *
  refine ⟨by show np + 1 ≤ 8; omega, h2, fun k hk => ?_, fun k hk => ?_, h5, h6⟩
  · show fu ar np np k < np + 1
    by_cases q : k = np
    · rw [q, fu_at]; omega
    · rw [fu_ne q]
      have : k < np + 1 := hk
      have := h3 k (by omega)
      omega
  · obtain ⟨q1, q2, q3, q4⟩ := h4 k hk
    exact ⟨q1, q2, Nat.lt_succ_of_lt q3, Nat.lt_succ_of_lt q4⟩
theorem wP_arr {P : sP} (h : wP P) {x y : Nat} (hy : y < p_np P) : wP (sp_arr P x y) := by
  obtain ⟨np, ar, ns, we, pl, ho, hf⟩ := P
  obtain ⟨h1, h2, h3, h4, h5, h6⟩ := h
  dsimp only [p_np, p_ar, p_ns, p_we, p_pl, p_ho, p_hf] at *
  refine ⟨h1, h2, fun k hk => ?_, h4, h5, h6⟩
  show fu ar x y k < np
  by_cases q : k = x
  · rw [q, fu_at]; exact hy
  · rw [fu_ne q]; exact h3 k hk
theorem wP_hom {P : sP} (h : wP P) {x y : Nat} (hy : y < p_np P) : wP (sp_hom P x y) := by
  obtain ⟨np, ar, ns, we, pl, ho, hf⟩ := P
  obtain ⟨h1, h2, h3, h4, h5, h6⟩ := h
  dsimp only [p_np, p_ar, p_ns, p_we, p_pl, p_ho, p_hf] at *
  refine ⟨h1, h2, h3, fun k hk => ?_, h5, h6⟩
  obtain ⟨q1, q2, q3, q4⟩ := h4 k hk
  refine ⟨q1, q2, q3, ?_⟩
  show fu ho x y k < np
  by_cases q : k = x
  · rw [q, fu_at]; exact hy
  · rw [fu_ne q]; exact q4
theorem wP_mov {P : sP} (h : wP P) {x y : Nat} (hx : x < p_ns P) (hy : y < p_np P) (hf : onP P y = none) : wP (sp_mov P x y) := by
  obtain ⟨np, ar, ns, we, pl, ho, hf⟩ := P
  obtain ⟨h1, h2, h3, h4, h5, h6⟩ := h
  dsimp only [p_np, p_ar, p_ns, p_we, p_pl, p_ho, p_hf, onP] at *
  have hfr := (ff_none ns 0).mp hf
  refine ⟨h1, h2, h3, fun k hk => ?_, fun i j hi hj hij => ?_, h6⟩
  · obtain ⟨q1, q2, q3, q4⟩ := h4 k hk
    refine ⟨q1, q2, ?_, q4⟩
    show fu pl x y k < np
    by_cases q : k = x
    · rw [q, fu_at]; exact hy
    · rw [fu_ne q]; exact q3
  · have hi : i < ns := hi
    have hj : j < ns := hj
    have hij : fu pl x y i = fu pl x y j := hij
    by_cases qi : i = x
    · by_cases qj : j = x
      · rw [qi, qj]
      · rw [qi, fu_at, fu_ne qj] at hij
        exact absurd (beq_iff_eq.mpr hij.symm) (hfr j (by omega) (by omega))
    · by_cases qj : j = x
      · rw [qj, fu_at, fu_ne qi] at hij
        exact absurd (beq_iff_eq.mpr hij) (hfr i (by omega) (by omega))
      · rw [fu_ne qi, fu_ne qj] at hij
        exact h5 i j hi hj hij
theorem getD_lt {l : List Nat} {i : Nat} (h : i < l.length) : l.getD i 0 = l[i] := by rw [List.getD_eq_getElem?_getD, List.getElem?_eq_getElem h]; rfl
theorem rk0_le {we : Nat → Nat} {w : Nat} : ∀ {l : List Nat}, rk0 we w l ≤ l.length := by
  intro l
  induction l with
  | nil => exact Nat.le_refl _
  | cons a l ih =>
    unfold rk0 at *
    rw [List.takeWhile_cons]
    split
    · rw [List.length_cons, List.length_cons]; omega
    · exact Nat.zero_le _
theorem rk0_lo {we : Nat → Nat} {w : Nat} : ∀ {l : List Nat} {i : Nat}, i < rk0 we w l → w ≤ we (l.getD i 0) := by
  intro l
  induction l with
  | nil => intro i h; exact absurd h (Nat.not_lt_zero _)
  | cons a l ih =>
    intro i h
    unfold rk0 at h ih
    rw [List.takeWhile_cons] at h
    split at h
    · rename_i ha
      cases i with
      | zero => exact of_decide_eq_true ha
      | succ i =>
        rw [List.getD_cons_succ]
        exact ih (by rw [List.length_cons] at h; omega)
    · exact absurd h (Nat.not_lt_zero _)
theorem rk0_hi {we : Nat → Nat} {w : Nat} : ∀ {l : List Nat}, l.Pairwise (hv we) → ∀ {i : Nat}, rk0 we w l ≤ i → i < l.length → we (l.getD i 0) < w := by
  intro l
  induction l with
  | nil => intro _ i _ h; exact absurd h (Nat.not_lt_zero _)
  | cons a l ih =>
    intro hp i h1 h2
    obtain ⟨hp1, hp2⟩ := List.pairwise_cons.mp hp
    have h1' := h1
    unfold rk0 at h1
    rw [List.takeWhile_cons] at h1
    split at h1
    · rename_i ha
      cases i with
      | zero => rw [List.length_cons] at h1; omega
      | succ i =>
        rw [List.getD_cons_succ]
        exact ih hp2 (by unfold rk0; rw [List.length_cons] at h1; omega) (by rw [List.length_cons] at h2; omega)
    · rename_i ha
      have ha : ¬ w ≤ we a := fun z => ha (decide_eq_true z)
      cases i with
      | zero => show we a < w; omega
      | succ i =>
        rw [List.getD_cons_succ]
        have h3 : i < l.length := by rw [List.length_cons] at h2; omega
        have h4 := hp1 (l.getD i 0) (by rw [getD_lt h3]; exact List.getElem_mem h3)
        unfold hv at h4
        omega
theorem ins_getD {l : List Nat} {r x : Nat} (h : r ≤ l.length) (i : Nat) : (l.take r ++ x :: l.drop r).getD i 0 = if i < r then l.getD i 0 else if i = r then x else l.getD (i - 1) 0 := by
  have hl : (l.take r).length = r := by rw [List.length_take]; omega
  rw [List.getD_eq_getElem?_getD, List.getD_eq_getElem?_getD, List.getD_eq_getElem?_getD]
  by_cases h1 : i < r
  · rw [if_pos h1, List.getElem?_append_left (by omega), List.getElem?_take, if_pos h1]
  · rw [if_neg h1, List.getElem?_append_right (by omega), hl]
    by_cases h2 : i = r
    · rw [if_pos h2, h2, Nat.sub_self]; rfl
    · rw [if_neg h2, show i - r = (i - 1 - r) + 1 by omega, List.getElem?_cons_succ, List.getElem?_drop, show r + (i - 1 - r) = i - 1 by omega]
theorem wP_len {P : sP} (h : wP P) : (p_hf P).length = p_ns P := by
  have := h.2.2.2.2.2.1.length_eq
  rw [List.length_range] at this
  exact this
theorem wP_hfl {P : sP} (h : wP P) {i : Nat} (hi : i < p_ns P) : (p_hf P).getD i 0 < p_ns P := by
  have hl := wP_len h
  rw [getD_lt (by omega)]
  exact List.mem_range.mp (h.2.2.2.2.2.1.mem_iff.mp (List.getElem_mem _))
theorem wP_sta {P : sP} (h : wP P) {x w : Nat} (hx : x < p_np P) (hn : p_ns P < 6) (hw1 : 1 ≤ w) (hw2 : w ≤ 99) (hf : onP P x = none) : wP (sp_sta P x w) := by
  have hl := wP_len h
  have hfl := fun {i} => @wP_hfl P h i
  have hlo := fun {i} => @rk0_lo (p_we P) w (p_hf P) i
  have hhi := fun {i} => @rk0_hi (p_we P) w (p_hf P) h.2.2.2.2.2.2 i
  have hle := @rk0_le (p_we P) w (p_hf P)
  obtain ⟨h1, h2, h3, h4, h5, h6, h7⟩ := h
  have hfr := (ff_none _ 0).mp hf
  have hmem : ∀ a ∈ p_hf P, a < p_ns P := fun a ha => List.mem_range.mp (h6.mem_iff.mp ha)
  refine ⟨h1, by rw [sta_ns]; omega, h3, fun k hk => ?_, fun i j hi hj hij => ?_, ?_, ?_⟩
  · rw [sta_ns] at hk
    rw [sta_we, sta_pl, sta_ho, sta_np]
    by_cases q : k = p_ns P
    · rw [q, fu_at, fu_at, fu_at]; exact ⟨hw1, hw2, hx, hx⟩
    · rw [fu_ne q, fu_ne q, fu_ne q]; exact h4 k (by omega)
  · rw [sta_ns] at hi hj
    rw [sta_pl] at hij
    by_cases qi : i = p_ns P
    · by_cases qj : j = p_ns P
      · rw [qi, qj]
      · rw [qi, fu_at, fu_ne qj] at hij
        exact absurd (beq_iff_eq.mpr hij.symm) (hfr j (by omega) (by omega))
    · by_cases qj : j = p_ns P
      · rw [qj, fu_at, fu_ne qi] at hij
        exact absurd (beq_iff_eq.mpr hij) (hfr i (by omega) (by omega))
      · rw [fu_ne qi, fu_ne qj] at hij
        exact h5 i j (by omega) (by omega) hij
  · rw [sta_hf, sta_ns, List.range_succ]
    refine List.perm_middle.trans ?_
    rw [List.take_append_drop]
    exact (h6.cons _).trans (List.perm_append_singleton _ _).symm
  · rw [sta_hf, sta_we]
    have hh : ∀ a b, a < p_ns P → b < p_ns P → hv (p_we P) a b → hv (fu (p_we P) (p_ns P) w) a b := by
      intro a b ha hb q
      unfold hv at *
      rw [fu_ne (by omega), fu_ne (by omega)]; exact q
    have hsub : ∀ {l : List Nat}, l.Pairwise (hv (p_we P)) → (∀ a ∈ l, a < p_ns P) → l.Pairwise (hv (fu (p_we P) (p_ns P) w)) := by
      intro l hp hm
      exact List.Pairwise.imp_of_mem (fun {a b} ha hb q => hh a b (hm a ha) (hm b hb) q) hp
    refine List.pairwise_append.mpr ⟨hsub (h7.sublist (List.take_sublist _ _)) (fun a ha => hmem a (List.mem_of_mem_take ha)), List.pairwise_cons.mpr ⟨fun b hb => ?_, hsub (h7.sublist (List.drop_sublist _ _)) (fun a ha => hmem a (List.mem_of_mem_drop ha))⟩, fun a ha b hb => ?_⟩
    · have hb2 := hmem b (List.mem_of_mem_drop hb)
      obtain ⟨i, hi, rfl⟩ := List.getElem_of_mem hb
      rw [List.length_drop] at hi
      have h8 := hhi (i := rk0 (p_we P) w (p_hf P) + i) (by omega) (by omega)
      rw [getD_lt (by omega)] at h8
      rw [List.getElem_drop] at hb2 ⊢
      unfold hv
      rw [fu_at, fu_ne (by omega)]
      exact Or.inl h8
    · have ha2 := hmem a (List.mem_of_mem_take ha)
      rcases List.mem_cons.mp hb with rfl | hb
      · obtain ⟨i, hi, rfl⟩ := List.getElem_of_mem ha
        rw [List.length_take] at hi
        have h8 := hlo (i := i) (by omega)
        rw [getD_lt (by omega)] at h8
        rw [List.getElem_take] at ha2 ⊢
        unfold hv
        rw [fu_at, fu_ne (by omega)]
        omega
      · have hb2 := hmem b (List.mem_of_mem_drop hb)
        refine hh a b ha2 hb2 ?_
        have h9 := h7
        rw [← List.take_append_drop (rk0 (p_we P) w (p_hf P)) (p_hf P)] at h9
        exact (List.pairwise_append.mp h9).2.2 a ha b hb
/-! THE CLASS'S CELLS: where they lie -/
def L_P (τ : qq_R) (p : Nat) : Prop := 70 ≤ p ∧ tK τ p = (7, 0) ∧ tR τ p 1 = p + 1 ∧ tR τ p 3 = p + 2 ∧ tR τ p 4 = p + 3 ∧ tR τ p 5 = p + 4 ∧ tR τ p 6 = p + 5 ∧
  tK τ (p + 1) = (100, 8) ∧ tK τ (p + 2) = (100, 6) ∧ tK τ (p + 3) = (100, 6) ∧ tK τ (p + 4) = (100, 6) ∧ tK τ (p + 5) = (100, 6)
def L_W (τ : qq_R) (p : Nat) : Prop := 70 ≤ p ∧ tK τ p = (11, 0) ∧ tR τ p 2 = p + 1 ∧ tR τ p 3 = p + 2 ∧ tR τ p 4 = p + 3 ∧ tR τ p 5 = p + 4 ∧ tR τ p 6 = p + 5 ∧ tR τ p 7 = p + 6 ∧
  tK τ (p + 1) = (100, 8) ∧ tK τ (p + 2) = (100, 8) ∧ tK τ (p + 3) = (100, 8) ∧ tK τ (p + 4) = (100, 8) ∧ tK τ (p + 5) = (100, 8) ∧ tK τ (p + 6) = (101, 8)
def L_M (τ : qq_R) (p : Nat) : Prop := 70 ≤ p ∧ tK τ p = (6, 0) ∧ tR τ p 0 = p + 1 ∧ tR τ p 1 = p + 2 ∧ tK τ (p + 1) = (100, 21) ∧ tK τ (p + 2) = (100, 21)
def L_R (τ : qq_R) (b : Nat) : Prop := 70 ≤ b ∧ tK τ b = (8, 0) ∧ tR τ b 0 = b + 1 ∧ tR τ b 1 = b + 7 ∧ tR τ b 2 = b + 14 ∧ L_P τ (b + 1) ∧ L_W τ (b + 7) ∧ L_M τ (b + 14)
/-- the plaza at p holds P -/
def R_P (I : qq_I) (p : Nat) (P : sP) : Prop := I p 0 = iN (p_np P) ∧ I p 2 = iN (p_ns P) ∧ (∀ k, k < p_np P → I (p + 1) k = iN (p_ar P k)) ∧ (∀ k, k < p_ns P → I (p + 2) k = iN (p_we P k)) ∧
  (∀ k, k < p_ns P → I (p + 3) k = iN (p_pl P k)) ∧ (∀ k, k < p_ns P → I (p + 4) k = iN (p_ho P k)) ∧ (∀ k, k < p_ns P → I (p + 5) k = iN ((p_hf P).getD k 0))
theorem R_P_same {I I' : qq_I} {p : Nat} {P : sP} (h : R_P I p P) (hs : ∀ a, p ≤ a → a < p + 6 → I' a = I a) : R_P I' p P := by
  obtain ⟨h1, h2, h3, h4, h5, h6, h7⟩ := h
  refine ⟨by rw [hs p (by omega) (by omega)]; exact h1, by rw [hs p (by omega) (by omega)]; exact h2, fun k hk => by rw [hs _ (by omega) (by omega)]; exact h3 k hk, fun k hk => by rw [hs _ (by omega) (by omega)]; exact h4 k hk, fun k hk => by rw [hs _ (by omega) (by omega)]; exact h5 k hk, fun k hk => by rw [hs _ (by omega) (by omega)]; exact h6 k hk, fun k hk => by rw [hs _ (by omega) (by omega)]; exact h7 k hk⟩
