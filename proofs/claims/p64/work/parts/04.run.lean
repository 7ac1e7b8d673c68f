/-! THE ABSTRACT MACHINE'S STEPS AND RUNS -/
def qq_T (m j : Nat) : Option qq_E := (qq_tab.getD m [])[j]?
def qq_maxL (m : Nat) : Nat := match qq_me[m]? with | some x => x.2.2.1 | none => 0
def qq_ret (m : Nat) : Option FieldType := match qq_me[m]? with | some x => x.2.2.2.1 | none => none
def qq_hn (m : Nat) : List (Nat × Nat × Nat × Nat) := match qq_me[m]? with | some x => x.2.2.2.2.2 | none => []
def qq_ty (c k : Nat) : FieldType := (qq_tys.getD c []).getD k .int
def qq_nf (c : Nat) : Nat := (qq_tys.getD c []).length
/-- how many fields are read: of a String two -/
def qq_nr (c : Nat) : Nat := if c = 0 then 2 else qq_nf c
theorem nr_le {c : Nat} : qq_nr c ≤ qq_nf c := by
  unfold qq_nr
  split
  · rename_i h; subst h; decide
  · exact Nat.le_refl _
def qq_sl : List Value → List (Option Value)
  | [] => []
  | v :: vs => if v.category = 2 then some v :: none :: qq_sl vs else some v :: qq_sl vs
def qq_ent (n : Nat) (args : List Value) : List (Option Value) := qq_sl args ++ List.replicate (n - (qq_sl args).length) none
/-- next; call; returned; threw -/
abbrev qq_A : Type := (Nat × List (Option Value) × List Value × qq_S) ⊕ ((Nat × List Value × List Value) ⊕ (Option Value ⊕ Nat))
abbrev qq_O : Type := Option Value ⊕ Nat
/-- the elements' types -/
def qq_et (t : Nat) : FieldType := if t = 100 then .int else if t = 101 then .boolean else if t = 102 then .byte else if t = 105 then .long else if t = 106 then .double else if t = 110 then .array .int else if t = 111 then .object "StatueChancery$Realm" else .object "StatueChancery$Command"
def qq_at (t : Nat) : Bool := t = 100 || t = 101 || t = 102 || t = 105 || t = 110 || t = 111 || t = 112
/-- instructions of the heap that go on at the next row -/
noncomputable def qq_hp (i : Instr) (lk : List Nat) (st : List Value) (σ : qq_S) : Option (List Value × qq_S) :=
  match i, lk, st with
  | .getfield _, [c, k, _, _], .ref a :: st => qq_if ((kd_S σ a).1 = c ∧ k < qq_nr c) (some (qq_val σ (qq_ty c k) a k :: st, σ)) none
  | .putfield _, [c, k, _, _], v :: .ref a :: st => qq_if ((kd_S σ a).1 = c ∧ k < qq_nf c ∧ qq_K0 ≤ a) ((qq_put σ (qq_ty c k) a k v).map (fun σ' => (st, σ'))) none
  | .getstatic _, [i, _], st => (qq_stat[i]?).map (fun x => (x.2.2.2 :: st, σ))
  | .ldc _, [0, n, _], st => some (.int (Int32.ofNat n) :: st, σ)
  | .ldc _, [1, n, _], st => some (.ref n :: st, σ)
  | .ldc_w _, [1, n, _], st => some (.ref n :: st, σ)
  | .ldc_w _, [0, n, _], st => some (.int (Int32.ofNat n) :: st, σ)
  | .arraylength, _, .ref a :: st => qq_if (qq_at (kd_S σ a).1 = true) (some (.int (Int32.ofNat (kd_S σ a).2) :: st, σ)) none
  | .iaload, _, .int i :: .ref a :: st => qq_if ((kd_S σ a).1 = 100 ∧ vp_in i (kd_S σ a).2) (some (.int (rd_I σ a i.toNatClampNeg) :: st, σ)) none
  | .baload, _, .int i :: .ref a :: st => qq_if (((kd_S σ a).1 = 101 ∨ (kd_S σ a).1 = 102) ∧ vp_in i (kd_S σ a).2) (some (.int (rd_I σ a i.toNatClampNeg) :: st, σ)) none
  | .laload, _, .int i :: .ref a :: st => qq_if ((kd_S σ a).1 = 105 ∧ vp_in i (kd_S σ a).2) (some (.long (rd_L σ a i.toNatClampNeg) :: st, σ)) none
  | .aaload, _, .int i :: .ref a :: st => qq_if ((110 ≤ (kd_S σ a).1 ∧ (kd_S σ a).1 < 113) ∧ vp_in i (kd_S σ a).2) (some (.ref (rd_R σ a i.toNatClampNeg) :: st, σ)) none
  | .iastore, _, .int x :: .int i :: .ref a :: st => qq_if ((kd_S σ a).1 = 100 ∧ vp_in i (kd_S σ a).2 ∧ qq_K0 ≤ a) (some (st, wr_I σ a i.toNatClampNeg x)) none
  | .bastore, _, .int x :: .int i :: .ref a :: st => qq_if (((kd_S σ a).1 = 101 ∨ (kd_S σ a).1 = 102) ∧ vp_in i (kd_S σ a).2 ∧ qq_K0 ≤ a) (some (st, wr_I σ a i.toNatClampNeg (vp_nar (if (kd_S σ a).1 = 101 then .boolean else .byte) x))) none
  | .lastore, _, .long x :: .int i :: .ref a :: st => qq_if ((kd_S σ a).1 = 105 ∧ vp_in i (kd_S σ a).2 ∧ qq_K0 ≤ a) (some (st, wr_L σ a i.toNatClampNeg x)) none
  | .aastore, _, .ref b :: .int i :: .ref a :: st => qq_if (((kd_S σ a).1 = 111 ∧ (kd_S σ b).1 = 8 ∨ (kd_S σ a).1 = 112 ∧ (kd_S σ b).1 = 1) ∧ vp_in i (kd_S σ a).2 ∧ qq_K0 ≤ a) (some (st, wr_R σ a i.toNatClampNeg b)) none
  | .new _, [0, c, _, _, _], st => some (.ref (sz_S σ) :: st, nw_S σ 1 (c, 0) (qq_nf c))
  | .newarray _, [t, _], .int n :: st => qq_if (¬ n < 0 ∧ n.toNatClampNeg ≤ 65536) (some (.ref (sz_S σ) :: st, nw_S σ 1 (t, n.toNatClampNeg) n.toNatClampNeg)) none
  | .anewarray _, [t, _, _], .int n :: st => qq_if (¬ n < 0 ∧ n.toNatClampNeg ≤ 65536) (some (.ref (sz_S σ) :: st, nw_S σ 1 (t, n.toNatClampNeg) n.toNatClampNeg)) none
  | .multianewarray _ 2, [110, _, _, _], .int k :: .int n :: st => qq_if ((¬ n < 0 ∧ n.toNatClampNeg ≤ 65536) ∧ (¬ k < 0 ∧ k.toNatClampNeg ≤ 65536))
      (some (.ref (sz_S σ) :: st, gr_S (nw_S (nw_S σ 1 (110, n.toNatClampNeg) n.toNatClampNeg) n.toNatClampNeg (100, k.toNatClampNeg) (n.toNatClampNeg * k.toNatClampNeg)) (sz_S σ) n.toNatClampNeg)) none
  | .invokestatic _, [20, _, _, _, _], .int n :: .int dp :: .ref b :: .int sp :: .ref a :: st => qq_if (((kd_S σ a).1 = (kd_S σ b).1 ∧ ((kd_S σ a).1 = 100 ∨ (kd_S σ a).1 = 102 ∧ ∀ i, i < n.toNatClampNeg → fits .byte (.int (rd_I σ a (sp.toNatClampNeg + i))) = true)) ∧ a ≠ b ∧ qq_K0 ≤ b ∧
      (¬ sp < 0 ∧ ¬ dp < 0 ∧ ¬ n < 0) ∧ sp.toNatClampNeg + n.toNatClampNeg ≤ (kd_S σ a).2 ∧ dp.toNatClampNeg + n.toNatClampNeg ≤ (kd_S σ b).2 ∧ (st.map fun v => v.category).sum ≤ 8) (some (st, cp_S σ a sp.toNatClampNeg b dp.toNatClampNeg n.toNatClampNeg)) none
  | .invokestatic _, [22, _, _, _, _], .int y :: .int x :: st => qq_if ((st.map fun v => v.category).sum ≤ 8) (some (.int (if x < y then y else x) :: st, σ)) none
  | .invokestatic _, [23, _, _, _, _], .int y :: .int x :: st => qq_if ((st.map fun v => v.category).sum ≤ 8) (some (.int (if y < x then y else x) :: st, σ)) none
  | .invokespecial _, [21, _, _, _], .ref a :: st => qq_if ((kd_S σ a).1 < 200 ∧ (st.map fun v => v.category).sum ≤ 8) (some (st, σ)) none
  | .invokevirtual _, [24, _, _, _, _, _, _], .ref a :: st => qq_if (((kd_S σ a).1 = 102 ∧ qq_K0 ≤ a ∧ ∀ i, i < (kd_S σ a).2 → fits .byte (.int (rd_I σ a i)) = true) ∧ (st.map fun v => v.category).sum ≤ 8) (some (.ref (sz_S σ) :: st, cl_S σ a)) none
  | .checkcast _, [25, _], .ref a :: st => qq_if ((kd_S σ a).1 = 102 ∧ qq_K0 ≤ a) (some (.ref a :: st, σ)) none
  | _, _, _ => none
/-- a call: its number, its arguments, the stack behind -/
noncomputable def qq_cal (i : Instr) (lk : List Nat) (st : List Value) (σ : qq_S) : Option (Nat × List Value × List Value) :=
  match lk with
  | kind :: callee :: n :: c :: _ => qq_if (kind ≤ 9 ∧ n ≤ st.length ∧ (qq_sl (st.take n).reverse).length ≤ qq_maxL callee ∧ ((st.drop n).map fun v => v.category).sum ≤ 8 ∧ (kind ≠ 0 → kind ≠ 3 → kind ≠ 8 → ∃ a, (st.take n).reverse.head? = some (.ref a) ∧ (kd_S σ a).1 < 200 ∧ (kind ≠ 2 → kind ≠ 5 → (kd_S σ a).1 = c)))
      (some (callee, (st.take n).reverse, st.drop n)) none
  | _ => none
noncomputable def qq_rt (m : Nat) (i : Instr) (st : List Value) : Option (Option Value) :=
  match i, st with
  | .ireturn, [.int x] => (match qq_ret m with | some ty => qq_if (narrow ty (.int x) = .int x) (some (some (.int x))) none | none => none)
  | .dreturn, [.double x] => qq_if (qq_ret m = some .double) (some (some (.double x))) none
  | .freturn, [.float x] => qq_if (qq_ret m = some .float) (some (some (.float x))) none
  | .areturn, [.ref a] => (match qq_ret m with | some (.object _) => some (some (.ref a)) | some (.array _) => some (some (.ref a)) | _ => none)
  | .return_, [] => qq_if (qq_ret m = none) (some none) none
  | _, _ => none
/-- which group an instruction belongs to -/
def qq_grp (i : Instr) (lk : List Nat) : Nat := match i with
  | .iconst _ | .bipush _ | .sipush _ | .lconst _ | .aconst_null | .fconst _ | .dconst _ => 0
  | .iload_n _ | .iload _ | .lload_n _ | .lload _ | .fload_n _ | .fload _ | .dload_n _ | .dload _ | .aload_n _ | .aload _ => 1
  | .istore_n _ | .istore _ | .lstore_n _ | .lstore _ | .fstore_n _ | .fstore _ | .dstore_n _ | .dstore _ | .astore_n _ | .astore _ => 2
  | .ineg | .i2l | .l2i | .i2b | .i2c | .i2d | .i2f | .f2d => 3
  | .iadd | .isub | .imul | .idiv | .irem | .iand | .ior | .ixor | .ishl | .ishr | .iushr | .ladd | .lsub | .land | .lor | .lshl | .lshr | .lcmp | .ddiv | .fdiv | .dcmp _ | .fcmp _ => 4
  | .pop | .dup | .dup_x1 | .dup2 => 5
  | .ifCond _ _ | .if_icmp _ _ | .goto _ | .ifnull _ | .ifnonnull _ => 6
  | .tableswitch _ _ _ _ | .lookupswitch _ _ => 7
  | .iinc _ _ => 8
  | .getfield _ | .putfield _ | .getstatic _ | .ldc _ | .ldc_w _ | .arraylength | .iaload | .baload | .laload | .daload | .aaload | .iastore | .bastore | .lastore | .dastore | .aastore | .newarray _ | .anewarray _ | .multianewarray _ _ => 9
  | .new _ => (match lk with | 0 :: _ => 9 | 1 :: _ => 12 | _ => 13)
  | .invokevirtual _ | .invokespecial _ | .invokestatic _ => (match lk with | 20 :: _ => 9 | 21 :: _ => 9 | 22 :: _ => 9 | 23 :: _ => 9 | 24 :: _ => 9 | _ => 10)
  | .checkcast _ => (match lk with | 25 :: _ => 9 | _ => 13)
  | .ireturn | .dreturn | .freturn | .areturn | .return_ => 11
  | _ => 13
noncomputable def qq_step (m : Nat) (e : qq_E) (j : Nat) (ls : List (Option Value)) (st : List Value) (σ : qq_S) : Option qq_A :=
  match qq_grp e.2.1 e.2.2.2 with
  | 0 => (match qq_cst e.2.1 with | some v => some (.inl (j + 1, ls, v :: st, σ)) | none => none)
  | 1 => (match qq_ldi e.2.1 with | some (i, t) => (match ls[i]? with | some (some v) => if qq_tc v = t then some (.inl (j + 1, ls, v :: st, σ)) else none | _ => none) | none => none)
  | 2 => (match qq_sti e.2.1, st with | some (i, t), v :: st => if qq_tc v = t ∧ i + v.category ≤ ls.length then some (.inl (j + 1, qq_set ls i v, st, σ)) else none | _, _ => none)
  | 3 => (match st with | x :: st => (match qq_un e.2.1 x with | some v => some (.inl (j + 1, ls, v :: st, σ)) | none => none) | _ => none)
  | 4 => (match st with | y :: x :: st => (match qq_bin e.2.1 y x with | some v => some (.inl (j + 1, ls, v :: st, σ)) | none => none) | _ => none)
  | 5 => (match qq_shf e.2.1 st with | some st' => some (.inl (j + 1, ls, st', σ)) | none => none)
  | 6 => (match qq_br e.2.1 st, e.2.2.2 with | some (b, st'), [t] => some (.inl (if b then t else j + 1, ls, st', σ)) | _, _ => none)
  | 7 => (match st with | .int x :: st => (match qq_sw e.2.1 x with | some k => (match e.2.2.2[k]? with | some t => some (.inl (t, ls, st, σ)) | none => none) | none => none) | _ => none)
  | 8 => (match e.2.1 with | .iinc i n => (match ls[i]? with | some (some (.int x)) => some (.inl (j + 1, qq_set ls i (.int (x + Int32.ofInt n)), st, σ)) | _ => none) | _ => none)
  | 9 => (match qq_hp e.2.1 e.2.2.2 st σ with | some (st', σ') => some (.inl (j + 1, ls, st', σ')) | none => none)
  | 10 => (match qq_cal e.2.1 e.2.2.2 st σ with | some c => some (.inr (.inl c)) | none => none)
  | 11 => (match qq_rt m e.2.1 st with | some v => some (.inr (.inr (.inl v))) | none => none)
  | 12 => (match e.2.2.2 with | [1, x, _] => if (st.map fun v => v.category).sum ≤ 8 ∧ qq_hn m = [] then some (.inr (.inr (.inr x))) else none | _ => none)
  | _ => none
/-- the handler that takes an exception thrown by the call at place j: it puts it away first (its place, the local) -/
def qq_han (m j x : Nat) (ls : List (Option Value)) : Option (Nat × Nat) := (qq_hn m).findSome? (fun h => if h.1 ≤ j ∧ j < h.2.1 ∧ h.2.2.1 = x then (match qq_T m h.2.2.2 with
  | some e => (match qq_sti e.2.1 with | some (i, 4) => if i < ls.length then some (h.2.2.2, i) else none | _ => none)
  | none => none) else none)
noncomputable def qq_run : Nat → Nat → Nat → Nat → List (Option Value) → List Value → qq_S → Option (qq_O × qq_S)
  | 0, _, _, _, _, _, _ => none
  | n + 1, d, m, j, ls, st, σ => match qq_T m j with
    | none => none
    | some e => match qq_step m e j ls st σ with
      | none => none
      | some (.inl (j', ls', st', σ')) => qq_run n d m j' ls' st' σ'
      | some (.inr (.inl (c, args, rest))) => (match d with
        | 0 => none
        | d' + 1 => match qq_run n d' c 0 (qq_ent (qq_maxL c) args) [] σ with
          | none => none
          | some (.inl v, σ') => qq_run n (d' + 1) m (j + 1) ls (v.toList ++ rest) σ'
          | some (.inr x, σ') => (match qq_hn m with
            | [] => some (.inr x, σ')
            | _ => match qq_han m j x ls with
              | none => none
              | some h => qq_run n (d' + 1) m (h.1 + 1) ((qq_set ls h.2 (.ref 0)).set h.2 none) [] σ'))
      | some (.inr (.inr (.inl v))) => some (.inl v, σ)
      | some (.inr (.inr (.inr x))) => some (.inr x, nw_S σ 1 (201, 0) 6)
theorem qq_mono1 : ∀ (n d m j : Nat) (ls : List (Option Value)) (st : List Value) (σ : qq_S) (r : qq_O × qq_S), qq_run n d m j ls st σ = some r → qq_run (n + 1) d m j ls st σ = some r := by
  intro n
  induction n with
  | zero => intro d m j ls st σ r h; simp [qq_run] at h
  | succ n ih =>
    intro d m j ls st σ r h
    rw [qq_run] at h ⊢
    split at h
    · cases h
    · rename_i e he
      split at h
      · cases h
      · rename_i j' ls' st' σ' hs
        (try simp only [hs])
        exact ih _ _ _ _ _ _ _ h
      · rename_i c args rest hs
        (try simp only [hs])
        split at h
        · cases h
        · rename_i d'
          (try dsimp only)
          split at h
          · cases h
          · rename_i v σ' hr
            rw [ih _ _ _ _ _ _ _ hr]
            exact ih _ _ _ _ _ _ _ h
          · rename_i x σ' hr
            rw [ih _ _ _ _ _ _ _ hr]
            (try dsimp only)
            split at h
            · rename_i hh
              (try simp only [hh]); exact h
            · rename_i hh
              split at h
              · cases h
              · rename_i hd hhd
                (try simp only [hhd])
                exact ih _ _ _ _ _ _ _ h
      · rename_i v hs
        (try simp only [hs])
        exact h
      · rename_i x hs
        (try simp only [hs])
        exact h
theorem qq_mono {n k d m j : Nat} {ls : List (Option Value)} {st : List Value} {σ : qq_S} {r : qq_O × qq_S} (h : qq_run n d m j ls st σ = some r) (hk : n ≤ k) : qq_run k d m j ls st σ = some r := by
  obtain ⟨i, rfl⟩ := Nat.le.dest hk
  induction i with
  | zero => exact h
  | succ i ih => exact qq_mono1 _ _ _ _ _ _ _ _ (ih (Nat.le_add_right _ _))
