/-! THE START: the constants -/
section SC
def cNm (i : Nat) : String := ["PEDESTAL", "ARROW", "STATUE", "HOME", "WRIT", "BLOCK", "PAY", "HEAR", "NIGHT"].getD i ""
def tC (i : Nat) : Term := .static "StatueChancery$Command" (cNm i) "LStatueChancery$Command;"
def tS (i : Nat) : Term := .string (qq_strs.getD i ("", 0, "", 0)).1 (qq_strs.getD i ("", 0, "", 0)).2.1
def txt (i : Nat) : List Nat := (ktab.getD i (0, [])).2
def tV (i : Nat) : Term := .field (tS i) "java/lang/String" "value" "[B"
def tA (a : Nat) : Term := if a = 66 then .static "StatueChancery$Command" "ALL" "[LStatueChancery$Command;" else if a = 67 then .static "StatueChancery$1" "$SwitchMap$StatueChancery$Command" "[I" else if a = 68 then .static "java/lang/Integer" "DigitTens" "[B" else .static "java/lang/Integer" "DigitOnes" "[B"
def qk_t (a : Nat) : Term := if a = 1 then .arg 0 else if a = 2 then .static "jdk/internal/util/Preconditions" "SIOOBE_FORMATTER" "Ljava/util/function/BiFunction;" else if a < 57 then (if a % 2 = 1 then tS ((a - 3) / 2) else tV ((a - 4) / 2)) else if a < 66 then tC (a - 57) else tA a
theorem qk_S {i : Nat} (hi : i < 27) : qk_t (3 + 2 * i) = tS i := by
  unfold qk_t
  rw [if_neg (by omega), if_neg (by omega), if_pos (by omega), if_pos (by omega), show (3 + 2 * i - 3) / 2 = i by omega]
theorem qk_V {i : Nat} (hi : i < 27) : qk_t (4 + 2 * i) = tV i := by
  unfold qk_t
  rw [if_neg (by omega), if_neg (by omega), if_pos (by omega), if_neg (by omega), show (4 + 2 * i - 4) / 2 = i by omega]
theorem qk_C {i : Nat} (hi : i < 9) : qk_t (57 + i) = tC i := by
  unfold qk_t
  rw [if_neg (by omega), if_neg (by omega), if_neg (by omega), if_pos (by omega), show 57 + i - 57 = i by omega]
def q4 (b : Nat) (s : State) (a : Nat) : Option Nat := if a = 0 then none else match (qk_t a).eval #[Value.ref b] s none [] s with
  | some (.ref p) => some p
  | _ => none
theorem q4_of {b a p : Nat} {s : State} (ha : a ≠ 0) (h : (qk_t a).eval #[Value.ref b] s none [] s = some (.ref p)) : q4 b s a = some p := by
  unfold q4
  rw [if_neg ha, h]
/-- what the Statement says of the start, row by row -/
def flN : List Jvm.Cond := flatC (Jvm.Cond.and given_1 narrow_1)
theorem dt_in {ws : List Jvm.Cond} {k n : Nat} (h : ws = (flN.drop k).take n) {c : Jvm.Cond} (hc : c ∈ ws) : c ∈ flN := by
  rw [h] at hc
  exact List.mem_of_mem_drop (List.mem_of_mem_take hc)
def iaC (tm : Term) (ty : FieldType) (n : Nat) (f : Nat → Nat) : List Jvm.Cond := .arrayOf tm ty :: .eq (.length tm) (.int (Int32.ofNat n)) :: (List.range n).map (fun j => .eq (.elem tm (.int (Int32.ofNat j))) (.int (Int32.ofNat (f j))))
def sCond (i : Nat) : List Jvm.Cond := .exactly (tS i) "java/lang/String" :: .eq (.field (tS i) "java/lang/String" "coder" "B") (.int 0) :: iaC (tV i) .byte (txt i).length (fun j => (txt i).getD j 0)
def cCond (i : Nat) : List Jvm.Cond := [.exactly (tC i) "StatueChancery$Command", .eq (.field (tC i) "java/lang/Enum" "ordinal" "I") (.int (Int32.ofNat i)), .eq (.field (tC i) "StatueChancery$Command" "form" "Ljava/lang/String;") (tS (18 + i))]
def ksL : List Nat := [403, 413, 430, 440, 451, 460, 467, 477, 488, 497, 403, 403, 403, 403, 403, 403, 403, 403, 605, 617, 629, 643, 654, 672, 685, 694, 704]
def kcL : List Nat := [217, 246, 249, 252, 255, 258, 261, 264, 267]
theorem sC_all : ((List.range 27).all (fun i => decide (sCond i = (flN.drop (ksL.getD i 0)).take ((txt i).length + 4)))) = true := by decide +kernel
theorem cC_all : ((List.range 9).all (fun i => decide (cCond i = (flN.drop (kcL.getD i 0)).take 3))) = true := by decide +kernel
theorem mC_67 : iaC (tA 67) .int 9 (fun k => if k < 8 then k + 1 else 0) = (flN.drop 235).take 11 := by decide +kernel
theorem mC_69 : iaC (tA 69) .byte 100 (fun k => 48 + k % 10) = (flN.drop 12).take 102 := by decide +kernel
theorem mC_68 : iaC (tA 68) .byte 100 (fun k => 48 + k / 10) = (flN.drop 115).take 102 := by decide +kernel
theorem mC_66 : ([.arrayOf (tA 66) (.object "StatueChancery$Command"), .eq (.length (tA 66)) (.int (Int32.ofNat 9))] : List Jvm.Cond) = (flN.drop 222).take 2 := by decide +kernel
theorem mC_66e : (List.range 9).map (fun j => Jvm.Cond.eq (.elem (tA 66) (.int (Int32.ofNat j))) (tC j)) = (flN.drop 225).take 9 := by decide +kernel
variable {b L : Nat} {xs : Nat → Int32} {s : State} {args : Array Value}
theorem ar_of {tm : Term} {ty : FieldType} {N : Nat} {f : Nat → Value} (hN : N < 2147483648) (harr : (Cond.arrayOf tm ty).before args s = true) (hlen : (Cond.eq (.length tm) (.int (Int32.ofNat N))).before args s = true) (hel : ∀ j : Nat, j < N → (Term.elem tm (.int (Int32.ofNat j))).eval args s none [] s = some (f j)) :
    ∃ (t : Nat) (cell : Cell), tm.eval args s none [] s = some (.ref t) ∧ s.heap[t]? = some cell ∧ s.isArrayOf cell ty ∧ cell.vm ≠ .unknown ∧ cell.vm.isStatics = false ∧ cell.slots.size = N ∧ ∀ j, j < N → cell.slots[j]? = some (f j) := by
  have hl := va_eqt hlen
  obtain ⟨t, cell, ht, hat, hv⟩ := Term.length_spec hl
  obtain ⟨hcell, hkn, hst, -⟩ := State.arrayAt?_spec hat
  obtain ⟨hof, -⟩ := Cond.arrayOf_spec harr ht hcell
  have hsz : cell.slots.size < 2147483648 := by
    simp only [Term.eval, ht, hat, Option.bind_eq_bind, Option.bind_some] at hl
    by_cases hlt : cell.slots.size < 2147483648
    · exact hlt
    · simp [hlt] at hl
  have he : cell.slots.size = N := by
    have h1 : iN N = iN cell.slots.size := Value.int.inj hv
    rw [iN_eq hN hsz] at h1
    exact h1.symm
  refine ⟨t, cell, ht, hcell, hof, hkn, hst, he, fun j hj => ?_⟩
  obtain ⟨a, i, cell2, h1, h2, h3, h4, h5⟩ := Term.elem_spec (hel j hj)
  cases ht.symm.trans h1
  cases hat.symm.trans h3
  have hi : i = Int32.ofNat j := by
    have e : (Term.int (Int32.ofNat j)).eval args s none [] s = some (.int (Int32.ofNat j)) := rfl
    cases h2.symm.trans e
    rfl
  have hc : i.toNatClampNeg = j := by rw [hi]; exact Int32.toNatClampNeg_ofNat_of_lt (Nat.lt_trans hj hN)
  rw [hc] at h5
  exact h5
theorem ia_f {tm : Term} {ty : FieldType} {n : Nat} {f : Nat → Nat} (hn : n < 2147483648) (h : ∀ c ∈ iaC tm ty n f, c.before args s = true) :
    ∃ (t : Nat) (cell : Cell), tm.eval args s none [] s = some (.ref t) ∧ s.heap[t]? = some cell ∧ s.isArrayOf cell ty ∧ cell.vm ≠ .unknown ∧ cell.vm.isStatics = false ∧ cell.slots.size = n ∧ ∀ j, j < n → cell.slots[j]? = some (.int (iN (f j))) :=
  ar_of hn (h _ List.mem_cons_self) (h _ (List.mem_cons_of_mem _ List.mem_cons_self)) (fun j hj => va_eqt (h _ (List.mem_cons_of_mem _ (List.mem_cons_of_mem _ (List.mem_map.mpr ⟨j, List.mem_range.mpr hj, rfl⟩)))))
theorem hA (s : State) : ∀ a : Nat, a < s.heap.size → ¬ (fun z : Nat => s.heap.size ≤ z) a := fun a h1 h2 => by
  have h2 : s.heap.size ≤ a := h2
  omega
/-- a String constant -/
theorem str_f (hN : ∀ c ∈ flN, c.before args s = true) {i : Nat} (hi : i < 27) : ∃ (p pv : Nat) (cell av : Cell), (tS i).eval args s none [] s = some (.ref p) ∧ (tV i).eval args s none [] s = some (.ref pv) ∧ s.heap[p]? = some cell ∧ s.vm.findClass "java/lang/String" = some cell.cls ∧ cell.vm ≠ .unknown ∧ cell.vm.isStatics = false ∧ cell.slots[q2 s 0 0]? = some (.ref pv) ∧ cell.slots[q2 s 0 1]? = some (.int (iN 0)) ∧
    s.heap[pv]? = some av ∧ s.isArrayOf av .byte ∧ av.vm ≠ .unknown ∧ av.vm.isStatics = false ∧ av.slots.size = (txt i).length ∧ (∀ j, j < (txt i).length → av.slots[j]? = some (.int (iN ((txt i).getD j 0)))) ∧ clT s ("java/lang/String", TZString, 2) := by
  have hc : ∀ c ∈ sCond i, c.before args s = true := fun c h => hN c (dt_in (of_decide_eq_true (List.all_eq_true.mp sC_all i (List.mem_range.mpr hi))) h)
  have hlen : ((List.range 27).all (fun i => decide ((txt i).length ≤ 60))) = true := by decide +kernel
  have hl := of_decide_eq_true (List.all_eq_true.mp hlen i (List.mem_range.mpr hi))
  have c1 := hc _ List.mem_cons_self
  have c2 := hc _ (List.mem_cons_of_mem _ List.mem_cons_self)
  obtain ⟨pv, av, a1, a2, a3, a4, a5, a6, a7⟩ := ia_f (by omega) (fun c h => hc c (List.mem_cons_of_mem _ (List.mem_cons_of_mem _ h)))
  obtain ⟨p, cS, cell, kS, q1, q2', q3, q4', q5, q6, -⟩ := Cond.exactly_spec (args := args) (first := s) (o := none) (s := s) (idx := []) c1
  obtain ⟨cf, kf, fi, f, cell1, g1, g2, g3, g4, g5, -⟩ := vk_OFof (A := fun z : Nat => s.heap.size ≤ z) q1 a1 (hA s)
  obtain ⟨cf2, kf2, fi2, f2, cell2, w1, w2, w3, w4, w5, -⟩ := vk_OFof (A := fun z : Nat => s.heap.size ≤ z) q1 (va_eqt c2) (hA s)
  cases q3.symm.trans g3
  cases q3.symm.trans w3
  have e0 : q2 s 0 0 = f.slot := by
    show (match s.fieldFound? "java/lang/String" "value" "[B" with | some x => x.2.2.2.slot | none => 0) = _
    rw [g1]
  have e1 : q2 s 0 1 = f2.slot := by
    show (match s.fieldFound? "java/lang/String" "coder" "B" with | some x => x.2.2.2.slot | none => 0) = _
    rw [w1]
  refine ⟨p, pv, cell, av, q1, a1, q3, by rw [q6]; exact q2', g4, q5, by rw [e0]; exact g5, by rw [e1]; exact w5, a2, a3, a4, a5, a6, a7, ⟨_, q2'⟩, fun k hk => ?_⟩
  match k, hk with
  | 0, _ => exact ⟨_, _, _, _, g1, g2⟩
  | 1, _ => exact ⟨_, _, _, _, w1, w2⟩
/-- a constant of the enum -/
theorem cmd_f (hN : ∀ c ∈ flN, c.before args s = true) {i : Nat} (hi : i < 9) : ∃ (p pf : Nat) (cell : Cell), (tC i).eval args s none [] s = some (.ref p) ∧ (tS (18 + i)).eval args s none [] s = some (.ref pf) ∧ s.heap[p]? = some cell ∧ s.vm.findClass "StatueChancery$Command" = some cell.cls ∧ cell.vm ≠ .unknown ∧ cell.vm.isStatics = false ∧ cell.slots[q2 s 1 0]? = some (.int (iN i)) ∧ cell.slots[q2 s 1 1]? = some (.ref pf) ∧ clT s ("StatueChancery$Command", TZCommand, 2) := by
  have hc : ∀ c ∈ cCond i, c.before args s = true := fun c h => hN c (dt_in (of_decide_eq_true (List.all_eq_true.mp cC_all i (List.mem_range.mpr hi))) h)
  have c1 := hc _ List.mem_cons_self
  have c2 := hc _ (List.mem_cons_of_mem _ List.mem_cons_self)
  have c3 := hc _ (List.mem_cons_of_mem _ (List.mem_cons_of_mem _ List.mem_cons_self))
  obtain ⟨pf, -, -, -, p1, -⟩ := str_f hN (i := 18 + i) (by omega)
  obtain ⟨p, cS, cell, kS, q1, q2', q3, q4', q5, q6, -⟩ := Cond.exactly_spec (args := args) (first := s) (o := none) (s := s) (idx := []) c1
  obtain ⟨cf, kf, fi, f, cell1, g1, g2, g3, g4, g5, -⟩ := vk_OFof (A := fun z : Nat => s.heap.size ≤ z) q1 (va_eqt c2) (hA s)
  obtain ⟨cf2, kf2, fi2, f2, cell2, w1, w2, w3, w4, w5, -⟩ := vk_OFof (A := fun z : Nat => s.heap.size ≤ z) q1 (va_eqv c3 p1) (hA s)
  cases q3.symm.trans g3
  cases q3.symm.trans w3
  have e0 : q2 s 1 0 = f.slot := by
    show (match s.fieldFound? "java/lang/Enum" "ordinal" "I" with | some x => x.2.2.2.slot | none => 0) = _
    rw [g1]
  have e1 : q2 s 1 1 = f2.slot := by
    show (match s.fieldFound? "StatueChancery$Command" "form" "Ljava/lang/String;" with | some x => x.2.2.2.slot | none => 0) = _
    rw [w1]
  refine ⟨p, pf, cell, q1, p1, q3, by rw [q6]; exact q2', g4, q5, by rw [e0]; exact g5, by rw [e1]; exact w5, ⟨_, q2'⟩, fun k hk => ?_⟩
  match k, hk with
  | 0, _ => exact ⟨_, _, _, _, g1, g2⟩
  | 1, _ => exact ⟨_, _, _, _, w1, w2⟩
end SC
