/-! THE RUN WITHOUT FUEL, AND ITS ROWS -/
noncomputable def RR (d m j : Nat) (ls : List (Option Value)) (st : List Value) (σ : qq_S) : Option (qq_O × qq_S) :=
  @dite _ (∃ r n, qq_run n d m j ls st σ = some r) (Classical.propDecidable _) (fun h => some h.choose) (fun _ => none)
theorem RR_iff {d m j : Nat} {ls : List (Option Value)} {st : List Value} {σ : qq_S} {r : qq_O × qq_S} : RR d m j ls st σ = some r ↔ ∃ n, qq_run n d m j ls st σ = some r := by
  unfold RR
  constructor
  · intro h
    by_cases hx : ∃ r n, qq_run n d m j ls st σ = some r
    · rw [dif_pos hx] at h
      cases h
      exact hx.choose_spec
    · rw [dif_neg hx] at h
      cases h
  · rintro ⟨n, hn⟩
    have hx : ∃ r n, qq_run n d m j ls st σ = some r := ⟨r, n, hn⟩
    rw [dif_pos hx]
    obtain ⟨k, hk⟩ := hx.choose_spec
    have h1 := qq_mono hn (Nat.le_max_left n k)
    have h2 := qq_mono hk (Nat.le_max_right n k)
    rw [h1] at h2
    exact h2.symm
theorem RR_ext {d m j : Nat} {ls : List (Option Value)} {st : List Value} {σ : qq_S} {x : Option (qq_O × qq_S)} (h : ∀ r, (∃ n, qq_run n d m j ls st σ = some r) ↔ x = some r) : RR d m j ls st σ = x := by
  cases hx : x with
  | some r => exact RR_iff.mpr ((h r).mpr hx)
  | none =>
    cases hr : RR d m j ls st σ with
    | none => rfl
    | some r =>
      have := (h r).mp (RR_iff.mp hr)
      rw [hx] at this
      cases this
theorem RR_next {d m j : Nat} {ls : List (Option Value)} {st : List Value} {σ : qq_S} {e : qq_E} {j' : Nat} {ls' : List (Option Value)} {st' : List Value} {σ' : qq_S} (hT : qq_T m j = some e) (hs : qq_step m e j ls st σ = some (.inl (j', ls', st', σ'))) : RR d m j ls st σ = RR d m j' ls' st' σ' := by
  refine RR_ext (fun r => ⟨fun ⟨n, hn⟩ => ?_, fun h => ?_⟩)
  · cases n with
    | zero => simp [qq_run] at hn
    | succ n =>
      rw [qq_run, hT] at hn
      simp only [hs] at hn
      exact RR_iff.mpr ⟨n, hn⟩
  · obtain ⟨n, hn⟩ := RR_iff.mp h
    refine ⟨n + 1, ?_⟩
    rw [qq_run, hT]
    simp only [hs]
    exact hn
theorem RR_stuck {d m j : Nat} {ls : List (Option Value)} {st : List Value} {σ : qq_S} {e : qq_E} (hT : qq_T m j = some e) (hs : qq_step m e j ls st σ = none) : RR d m j ls st σ = none := by
  refine RR_ext (fun r => ⟨fun ⟨n, hn⟩ => ?_, fun h => nomatch h⟩)
  cases n with
  | zero => simp [qq_run] at hn
  | succ n =>
    rw [qq_run, hT] at hn
    simp only [hs] at hn
    cases hn
theorem RR_ret0 {d m j : Nat} {ls : List (Option Value)} {st : List Value} {σ : qq_S} {e : qq_E} {v : Option Value} (hT : qq_T m j = some e) (hs : qq_step m e j ls st σ = some (.inr (.inr (.inl v)))) : RR d m j ls st σ = some (.inl v, σ) := by
  refine RR_iff.mpr ⟨1, ?_⟩
  rw [qq_run, hT]
  simp only [hs]
theorem RR_thr0 {d m j : Nat} {ls : List (Option Value)} {st : List Value} {σ : qq_S} {e : qq_E} {x : Nat} (hT : qq_T m j = some e) (hs : qq_step m e j ls st σ = some (.inr (.inr (.inr x)))) : RR d m j ls st σ = some (.inr x, nw_S σ 1 (201, 0) 6) := by
  refine RR_iff.mpr ⟨1, ?_⟩
  rw [qq_run, hT]
  simp only [hs]
/-- a call of a method -/
noncomputable def CC (d m : Nat) (av : List Value) (σ : qq_S) : Option (qq_O × qq_S) := RR d m 0 (qq_ent (qq_maxL m) av) [] σ
/-- behind a call -/
def bd (x : Option (qq_O × qq_S)) (k : Option Value → qq_S → Option (qq_O × qq_S)) : Option (qq_O × qq_S) := match x with
  | none => none
  | some (.inl v, σ) => k v σ
  | some (.inr x, σ) => some (.inr x, σ)
theorem bd_ret (v : Option Value) (σ : qq_S) (k : Option Value → qq_S → Option (qq_O × qq_S)) : bd (some (.inl v, σ)) k = k v σ := rfl
theorem bd_thr (x : Nat) (σ : qq_S) (k : Option Value → qq_S → Option (qq_O × qq_S)) : bd (some (.inr x, σ)) k = some (.inr x, σ) := rfl
def bdh (x : Option (qq_O × qq_S)) (k : Option Value → qq_S → Option (qq_O × qq_S)) (kx : Nat → qq_S → Option (qq_O × qq_S)) : Option (qq_O × qq_S) := match x with
  | none => none
  | some (.inl v, σ) => k v σ
  | some (.inr x, σ) => kx x σ
theorem bdh_ret (v : Option Value) (σ : qq_S) (k : Option Value → qq_S → Option (qq_O × qq_S)) (kx : Nat → qq_S → Option (qq_O × qq_S)) : bdh (some (.inl v, σ)) k kx = k v σ := rfl
theorem bdh_thr (x : Nat) (σ : qq_S) (k : Option Value → qq_S → Option (qq_O × qq_S)) (kx : Nat → qq_S → Option (qq_O × qq_S)) : bdh (some (.inr x, σ)) k kx = kx x σ := rfl
/-- a returned value on the stack -/
def vl (v : Option Value) (st : List Value) : List Value := match v with
  | none => st
  | some x => x :: st
theorem vl_none (st : List Value) : vl none st = st := rfl
theorem vl_some (v : Value) (st : List Value) : vl (some v) st = v :: st := rfl
theorem vl_eq (v : Option Value) (st : List Value) : v.toList ++ st = vl v st := by cases v <;> rfl
noncomputable def gd {α : Type} (P : Prop) (x : Option α) : Option α := qq_if P x none
theorem gd_t {α : Type} {P : Prop} {x : Option α} (h : P) : gd P x = x := qq_if_t h
theorem gd_f {α : Type} {P : Prop} {x : Option α} (h : ¬ P) : gd P x = none := qq_if_f h
theorem gd_true {α : Type} {x : Option α} : gd True x = x := qq_if_t trivial
theorem gd_c {α : Type} {P : Prop} {x y : Option α} (h : x = y) : gd P x = gd P y := by rw [h]
theorem gd_gd {α : Type} {P Q : Prop} {x : Option α} : gd P (gd Q x) = gd (P ∧ Q) x := by
  by_cases hP : P
  · rw [gd_t hP]
    by_cases hQ : Q
    · rw [gd_t hQ, gd_t ⟨hP, hQ⟩]
    · rw [gd_f hQ, gd_f (fun h => hQ h.2)]
  · rw [gd_f hP, gd_f (fun h => hP h.1)]
theorem ite_c {α : Type} {P : Prop} [Decidable P] {x y x' y' : α} (h1 : x = x') (h2 : y = y') : (if P then x else y) = if P then x' else y' := by rw [h1, h2]
/-- all of a list of propositions -/
def al : List Prop → Prop
  | [] => True
  | [p] => p
  | p :: q :: ps => p ∧ al (q :: ps)
theorem al_cons {p : Prop} {ps : List Prop} : al (p :: ps) ↔ p ∧ al ps := by
  cases ps with
  | nil => exact ⟨fun h => ⟨h, trivial⟩, fun h => h.1⟩
  | cons q ps => exact Iff.rfl
theorem al_app {ps qs : List Prop} : al (ps ++ qs) ↔ al ps ∧ al qs := by
  induction ps with
  | nil => exact ⟨fun h => ⟨trivial, h⟩, fun h => h.2⟩
  | cons p ps ih => rw [List.cons_append, al_cons, al_cons, ih, and_assoc]
/-- a narrow int -/
def nk (ty : FieldType) (x : Int32) : Prop := narrow ty (.int x) = .int x ∧ fits ty (.int x) = true
def nr (ty : FieldType) (x : Int32) : Prop := narrow ty (.int x) = .int x
def us_un (i : Instr) (x : Value) : Option (List Prop × Value) := match i, x with
  | .ineg, .int x => some ([], .int (-x))
  | .i2l, .int x => some ([], .long x.toInt64)
  | .l2i, .long x => some ([], .int x.toInt32)
  | .i2b, .int x => some ([], .int x.toInt8.toInt32)
  | .i2c, .int x => some ([], .int (x.toUInt32 % 65536).toInt32)
  | .i2d, .int x => some ([], .double (FP.i2d x))
  | .i2f, .int x => some ([], .float (FP.i2f x))
  | .f2d, .float x => some ([vf_n64 (FP.f2d x)], .double (FP.f2d x))
  | _, _ => none
def us_bin (i : Instr) (y x : Value) : Option (List Prop × Value) := match i, y, x with
  | .iadd, .int y, .int x => some ([], .int (x + y))
  | .isub, .int y, .int x => some ([], .int (x - y))
  | .imul, .int y, .int x => some ([], .int (x * y))
  | .idiv, .int y, .int x => some ([¬ y = 0], .int (x / y))
  | .irem, .int y, .int x => some ([¬ y = 0], .int (x - x / y * y))
  | .iand, .int y, .int x => some ([], .int (x &&& y))
  | .ior, .int y, .int x => some ([], .int (x ||| y))
  | .ixor, .int y, .int x => some ([], .int (x ^^^ y))
  | .ishl, .int y, .int x => some ([], .int (x <<< (y &&& 31)))
  | .ishr, .int y, .int x => some ([], .int (x >>> (y &&& 31)))
  | .iushr, .int y, .int x => some ([], .int (x.toUInt32 >>> (y.toUInt32 &&& Int32.toUInt32 31)).toInt32)
  | .ladd, .long y, .long x => some ([], .long (x + y))
  | .lsub, .long y, .long x => some ([], .long (x - y))
  | .land, .long y, .long x => some ([], .long (x &&& y))
  | .lor, .long y, .long x => some ([], .long (x ||| y))
  | .lshl, .int y, .long x => some ([], .long (x <<< (y.toInt64 &&& 63)))
  | .lshr, .int y, .long x => some ([], .long (x >>> (y.toInt64 &&& 63)))
  | .lcmp, .long y, .long x => some ([], .int (lg_cmp x y))
  | .ddiv, .double y, .double x => some ([vf_n64 (FP.ddiv x y)], .double (FP.ddiv x y))
  | .fdiv, .float y, .float x => some ([vf_n32 (FP.fdiv x y)], .float (FP.fdiv x y))
  | .dcmp op, .double y, .double x => some ([], .int (Op.cmpValue (FP.dcmp x y) op))
  | .fcmp op, .float y, .float x => some ([], .int (Op.cmpValue (FP.fcmp x y) op))
  | _, _, _ => none
theorem us_un_ok {i : Instr} {x v : Value} {gs : List Prop} (h : us_un i x = some (gs, v)) : qq_un i x = qq_if (al gs) (some v) none := by
  unfold us_un at h
  split at h <;> first | (cases h; exact (qq_if_t trivial).symm) | (cases h; rfl) | cases h
theorem us_bin_ok {i : Instr} {y x v : Value} {gs : List Prop} (h : us_bin i y x = some (gs, v)) : qq_bin i y x = qq_if (al gs) (some v) none := by
  unfold us_bin at h
  split at h <;> first | (cases h; exact (qq_if_t trivial).symm) | (cases h; rfl) | cases h
def us_put (σ : qq_S) (ty : FieldType) (a k : Nat) (v : Value) : Option (List Prop × qq_S) := match ty with
  | .long => (match v with | .long x => some ([], wr_L σ a k x) | _ => none)
  | .double => (match v with | .double x => some ([], wr_D σ a k x) | _ => none)
  | .object _ => (match v with | .ref x => some ([], wr_R σ a k x) | _ => none)
  | .array _ => (match v with | .ref x => some ([], wr_R σ a k x) | _ => none)
  | .float => none
  | .int => (match v with | .int x => some ([], wr_I σ a k x) | _ => none)
  | ty => (match v with | .int x => some ([nk ty x], wr_I σ a k x) | _ => none)
theorem us_put_ok {σ σ' : qq_S} {ty : FieldType} {a k : Nat} {v : Value} {gs : List Prop} (h : us_put σ ty a k v = some (gs, σ')) : qq_put σ ty a k v = qq_if (al gs) (some σ') none := by
  unfold us_put at h
  split at h
  all_goals first | (cases h; done) | (split at h <;> first | (cases h; done) | (cases h; exact (qq_if_t trivial).symm) | (cases h; unfold qq_put; split <;> first | rfl | (rename_i h9; exact absurd rfl h9) | simp_all))
/-- instructions of the heap, their conditions told -/
def us_hp (i : Instr) (lk : List Nat) (st : List Value) (σ : qq_S) : Option (List Prop × List Value × qq_S) :=
  match i, lk, st with
  | .getfield _, [c, k, _, _], .ref a :: st => if k < qq_nr c then some ([(kd_S σ a).1 = c], qq_val σ (qq_ty c k) a k :: st, σ) else none
  | .putfield _, [c, k, _, _], v :: .ref a :: st => if k < qq_nf c then (match us_put σ (qq_ty c k) a k v with | some (gs, σ') => some (((kd_S σ a).1 = c) :: (qq_K0 ≤ a) :: gs, st, σ') | none => none) else none
  | .getstatic _, [i, _], st => (match qq_stat[i]? with | some x => some ([], x.2.2.2 :: st, σ) | none => none)
  | .ldc _, [0, n, _], st => some ([], .int (Int32.ofNat n) :: st, σ)
  | .ldc _, [1, n, _], st => some ([], .ref n :: st, σ)
  | .ldc_w _, [1, n, _], st => some ([], .ref n :: st, σ)
  | .ldc_w _, [0, n, _], st => some ([], .int (Int32.ofNat n) :: st, σ)
  | .arraylength, _, .ref a :: st => some ([qq_at (kd_S σ a).1 = true], .int (Int32.ofNat (kd_S σ a).2) :: st, σ)
  | .iaload, _, .int i :: .ref a :: st => some ([(kd_S σ a).1 = 100 ∧ vp_in i (kd_S σ a).2], .int (rd_I σ a i.toNatClampNeg) :: st, σ)
  | .baload, _, .int i :: .ref a :: st => some ([((kd_S σ a).1 = 101 ∨ (kd_S σ a).1 = 102) ∧ vp_in i (kd_S σ a).2], .int (rd_I σ a i.toNatClampNeg) :: st, σ)
  | .laload, _, .int i :: .ref a :: st => some ([(kd_S σ a).1 = 105 ∧ vp_in i (kd_S σ a).2], .long (rd_L σ a i.toNatClampNeg) :: st, σ)
  | .aaload, _, .int i :: .ref a :: st => some ([(110 ≤ (kd_S σ a).1 ∧ (kd_S σ a).1 < 113) ∧ vp_in i (kd_S σ a).2], .ref (rd_R σ a i.toNatClampNeg) :: st, σ)
  | .iastore, _, .int x :: .int i :: .ref a :: st => some ([(kd_S σ a).1 = 100 ∧ vp_in i (kd_S σ a).2 ∧ qq_K0 ≤ a], st, wr_I σ a i.toNatClampNeg x)
  | .bastore, _, .int x :: .int i :: .ref a :: st => some ([((kd_S σ a).1 = 101 ∨ (kd_S σ a).1 = 102) ∧ vp_in i (kd_S σ a).2 ∧ qq_K0 ≤ a], st, wr_I σ a i.toNatClampNeg (vp_nar (if (kd_S σ a).1 = 101 then .boolean else .byte) x))
  | .lastore, _, .long x :: .int i :: .ref a :: st => some ([(kd_S σ a).1 = 105 ∧ vp_in i (kd_S σ a).2 ∧ qq_K0 ≤ a], st, wr_L σ a i.toNatClampNeg x)
  | .aastore, _, .ref b :: .int i :: .ref a :: st => some ([((kd_S σ a).1 = 111 ∧ (kd_S σ b).1 = 8 ∨ (kd_S σ a).1 = 112 ∧ (kd_S σ b).1 = 1) ∧ vp_in i (kd_S σ a).2 ∧ qq_K0 ≤ a], st, wr_R σ a i.toNatClampNeg b)
  | .new _, [0, c, _, _, _], st => some ([], .ref (sz_S σ) :: st, nw_S σ 1 (c, 0) (qq_nf c))
  | .newarray _, [t, _], .int n :: st => some ([¬ n < 0 ∧ n.toNatClampNeg ≤ 65536], .ref (sz_S σ) :: st, nw_S σ 1 (t, n.toNatClampNeg) n.toNatClampNeg)
  | .anewarray _, [t, _, _], .int n :: st => some ([¬ n < 0 ∧ n.toNatClampNeg ≤ 65536], .ref (sz_S σ) :: st, nw_S σ 1 (t, n.toNatClampNeg) n.toNatClampNeg)
  | .multianewarray _ 2, [110, _, _, _], .int k :: .int n :: st => some ([(¬ n < 0 ∧ n.toNatClampNeg ≤ 65536) ∧ (¬ k < 0 ∧ k.toNatClampNeg ≤ 65536)],
      .ref (sz_S σ) :: st, gr_S (nw_S (nw_S σ 1 (110, n.toNatClampNeg) n.toNatClampNeg) n.toNatClampNeg (100, k.toNatClampNeg) (n.toNatClampNeg * k.toNatClampNeg)) (sz_S σ) n.toNatClampNeg)
  | .invokestatic _, [20, _, _, _, _], .int n :: .int dp :: .ref b :: .int sp :: .ref a :: st => if (st.map fun v => v.category).sum ≤ 8 then some ([((kd_S σ a).1 = (kd_S σ b).1 ∧ ((kd_S σ a).1 = 100 ∨ (kd_S σ a).1 = 102 ∧ ∀ i, i < n.toNatClampNeg → fits .byte (.int (rd_I σ a (sp.toNatClampNeg + i))) = true)) ∧ a ≠ b ∧ qq_K0 ≤ b ∧
      (¬ sp < 0 ∧ ¬ dp < 0 ∧ ¬ n < 0) ∧ sp.toNatClampNeg + n.toNatClampNeg ≤ (kd_S σ a).2 ∧ dp.toNatClampNeg + n.toNatClampNeg ≤ (kd_S σ b).2], st, cp_S σ a sp.toNatClampNeg b dp.toNatClampNeg n.toNatClampNeg) else none
  | .invokestatic _, [22, _, _, _, _], .int y :: .int x :: st => if (st.map fun v => v.category).sum ≤ 8 then some ([], .int (if x < y then y else x) :: st, σ) else none
  | .invokestatic _, [23, _, _, _, _], .int y :: .int x :: st => if (st.map fun v => v.category).sum ≤ 8 then some ([], .int (if y < x then y else x) :: st, σ) else none
  | .invokespecial _, [21, _, _, _], .ref a :: st => if (st.map fun v => v.category).sum ≤ 8 then some ([(kd_S σ a).1 < 200], st, σ) else none
  | .invokevirtual _, [24, _, _, _, _, _, _], .ref a :: st => if (st.map fun v => v.category).sum ≤ 8 then some ([(kd_S σ a).1 = 102 ∧ qq_K0 ≤ a ∧ ∀ i, i < (kd_S σ a).2 → fits .byte (.int (rd_I σ a i)) = true], .ref (sz_S σ) :: st, cl_S σ a) else none
  | .checkcast _, [25, _], .ref a :: st => some ([(kd_S σ a).1 = 102 ∧ qq_K0 ≤ a], .ref a :: st, σ)
  | _, _, _ => none
theorem qq_if_iff {α : Type} {P Q : Prop} {x y : α} (h : P ↔ Q) : qq_if P x y = qq_if Q x y := by rw [propext h]
theorem us_hp_ok {i : Instr} {lk : List Nat} {st st' : List Value} {σ σ' : qq_S} {gs : List Prop} (h : us_hp i lk st σ = some (gs, st', σ')) : qq_hp i lk st σ = qq_if (al gs) (some (st', σ')) none := by
  unfold us_hp at h
  split at h
  · split at h
    · rename_i hk
      cases h
      exact qq_if_iff ⟨fun q => q.1, fun q => ⟨q, hk⟩⟩
    · cases h
  · rename_i c k _ _ v a st
    split at h
    · rename_i hk
      split at h
      · rename_i gs9 σ9 hp
        cases h
        show qq_if ((kd_S σ a).1 = c ∧ k < qq_nf c ∧ qq_K0 ≤ a) ((qq_put σ (qq_ty c k) a k v).map (fun σ' => (st', σ'))) none = _
        rw [us_put_ok hp]
        by_cases h1 : (kd_S σ a).1 = c ∧ qq_K0 ≤ a
        · rw [qq_if_t ⟨h1.1, hk, h1.2⟩]
          by_cases h2 : al gs9
          · rw [qq_if_t h2, qq_if_t (al_cons.mpr ⟨h1.1, al_cons.mpr ⟨h1.2, h2⟩⟩)]; rfl
          · rw [qq_if_f h2, qq_if_f (fun q => h2 (al_cons.mp (al_cons.mp q).2).2)]; rfl
        · rw [qq_if_f (fun q => h1 ⟨q.1, q.2.2⟩), qq_if_f (fun q => h1 ⟨(al_cons.mp q).1, (al_cons.mp (al_cons.mp q).2).1⟩)]
      · cases h
    · cases h
  · split at h
    · rename_i x hx
      cases h
      simp only [qq_hp, hx, Option.map_some]
      exact (qq_if_t trivial).symm
    · cases h
  · cases h; exact (qq_if_t trivial).symm
  · cases h; exact (qq_if_t trivial).symm
  · cases h; exact (qq_if_t trivial).symm
  · cases h; exact (qq_if_t trivial).symm
  · cases h; rfl
  · cases h; rfl
  · cases h; rfl
  · cases h; rfl
  · cases h; rfl
  · cases h; rfl
  · cases h; rfl
  · cases h; rfl
  · cases h; rfl
  · cases h; exact (qq_if_t trivial).symm
  · cases h; rfl
  · cases h; rfl
  · cases h; rfl
  · split at h
    · rename_i hs
      cases h
      exact qq_if_iff ⟨fun q => ⟨q.1, q.2.1, q.2.2.1, q.2.2.2.1, q.2.2.2.2.1, q.2.2.2.2.2.1⟩, fun q => ⟨q.1, q.2.1, q.2.2.1, q.2.2.2.1, q.2.2.2.2.1, q.2.2.2.2.2, hs⟩⟩
    · cases h
  · split at h
    · rename_i hs; cases h; exact qq_if_iff ⟨fun _ => trivial, fun _ => hs⟩
    · cases h
  · split at h
    · rename_i hs; cases h; exact qq_if_iff ⟨fun _ => trivial, fun _ => hs⟩
    · cases h
  · split at h
    · rename_i hs; cases h; exact qq_if_iff ⟨fun q => q.1, fun q => ⟨q, hs⟩⟩
    · cases h
  · split at h
    · rename_i hs; cases h; exact qq_if_iff ⟨fun q => q.1, fun q => ⟨q, hs⟩⟩
    · cases h
  · cases h; rfl
  · cases h
/-- one instruction that goes on at the next row, its conditions told -/
def us (e : qq_E) (ls : List (Option Value)) (st : List Value) (σ : qq_S) : Option (List Prop × List (Option Value) × List Value × qq_S) :=
  match qq_grp e.2.1 e.2.2.2 with
  | 0 => (match qq_cst e.2.1 with | some v => some ([], ls, v :: st, σ) | none => none)
  | 1 => (match qq_ldi e.2.1 with | some (i, t) => (match ls[i]? with | some (some v) => if qq_tc v = t then some ([], ls, v :: st, σ) else none | _ => none) | none => none)
  | 2 => (match qq_sti e.2.1, st with | some (i, t), v :: st => if qq_tc v = t ∧ i + v.category ≤ ls.length then some ([], qq_set ls i v, st, σ) else none | _, _ => none)
  | 3 => (match st with | x :: st => (match us_un e.2.1 x with | some (gs, v) => some (gs, ls, v :: st, σ) | none => none) | _ => none)
  | 4 => (match st with | y :: x :: st => (match us_bin e.2.1 y x with | some (gs, v) => some (gs, ls, v :: st, σ) | none => none) | _ => none)
  | 5 => (match qq_shf e.2.1 st with | some st' => some ([], ls, st', σ) | none => none)
  | 8 => (match e.2.1 with | .iinc i n => (match ls[i]? with | some (some (.int x)) => some ([], qq_set ls i (.int (x + Int32.ofInt n)), st, σ) | _ => none) | _ => none)
  | 9 => (match us_hp e.2.1 e.2.2.2 st σ with | some (gs, st', σ') => some (gs, ls, st', σ') | none => none)
  | _ => none
theorem us_ok {e : qq_E} {ls ls' : List (Option Value)} {st st' : List Value} {σ σ' : qq_S} {gs : List Prop} (m j : Nat) (h : us e ls st σ = some (gs, ls', st', σ')) : qq_step m e j ls st σ = qq_if (al gs) (some (.inl (j + 1, ls', st', σ'))) none := by
  unfold us at h
  split at h
  · rename_i hg
    unfold qq_step
    simp only [hg]
    split at h
    · rename_i v hv
      cases h
      simp only [hv]
      exact (qq_if_t trivial).symm
    · cases h
  · rename_i hg
    unfold qq_step
    simp only [hg]
    split at h
    · rename_i i t hi
      simp only [hi]
      split at h
      · rename_i v hv
        simp only [hv]
        split at h
        · rename_i ht
          cases h
          rw [if_pos ht]
          exact (qq_if_t trivial).symm
        · cases h
      · cases h
    · cases h
  · rename_i hg
    unfold qq_step
    simp only [hg]
    split at h
    · rename_i i t v st9 hi
      simp only [hi]
      split at h
      · rename_i ht
        cases h
        rw [if_pos ht]
        exact (qq_if_t trivial).symm
      · cases h
    · cases h
  · rename_i hg
    unfold qq_step
    simp only [hg]
    split at h
    · split at h
      · rename_i gs9 v hv
        cases h
        simp only [us_un_ok hv]
        by_cases hq : al gs
        · rw [qq_if_t hq, qq_if_t hq]
        · rw [qq_if_f hq, qq_if_f hq]
      · cases h
    · cases h
  · rename_i hg
    unfold qq_step
    simp only [hg]
    split at h
    · split at h
      · rename_i gs9 v hv
        cases h
        simp only [us_bin_ok hv]
        by_cases hq : al gs
        · rw [qq_if_t hq, qq_if_t hq]
        · rw [qq_if_f hq, qq_if_f hq]
      · cases h
    · cases h
  · rename_i hg
    unfold qq_step
    simp only [hg]
    split at h
    · rename_i st9 hv
      cases h
      simp only [hv]
      exact (qq_if_t trivial).symm
    · cases h
  · rename_i hg
    unfold qq_step
    simp only [hg]
    split at h
    · rename_i i n hi
      split at h
      · rename_i x hx
        cases h
        simp only [hi, hx]
        exact (qq_if_t trivial).symm
      · cases h
    · cases h
  · rename_i hg
    unfold qq_step
    simp only [hg]
    split at h
    · rename_i gs9 st9 σ9 hv
      cases h
      simp only [us_hp_ok hv]
      by_cases hq : al gs
      · rw [qq_if_t hq, qq_if_t hq]
      · rw [qq_if_f hq, qq_if_f hq]
    · cases h
  · cases h
def usk : List qq_E → List (Option Value) → List Value → qq_S → Option (List Prop × List (Option Value) × List Value × qq_S)
  | [], ls, st, σ => some ([], ls, st, σ)
  | e :: L, ls, st, σ => (match us e ls st σ with
    | none => none
    | some (gs, ls', st', σ') => (match usk L ls' st' σ' with
      | none => none
      | some (hs, r) => some (gs ++ hs, r)))
theorem T_drop {m : Nat} {tb : List qq_E} (ht : qq_tab.getD m [] = tb) {j : Nat} {e : qq_E} {L : List qq_E} (h : tb.drop j = e :: L) : qq_T m j = some e ∧ tb.drop (j + 1) = L := by
  refine ⟨?_, ?_⟩
  · unfold qq_T
    rw [ht, ← List.head?_drop, h]; rfl
  · rw [← List.drop_drop, h]; rfl
theorem T_run {d m : Nat} {tb : List qq_E} (ht : qq_tab.getD m [] = tb) : ∀ (L : List qq_E) (L9 : List qq_E) (j : Nat) {ls ls' : List (Option Value)} {st st' : List Value} {σ σ' : qq_S} {gs : List Prop}, tb.drop j = L ++ L9 → usk L ls st σ = some (gs, ls', st', σ') → RR d m j ls st σ = gd (al gs) (RR d m (j + L.length) ls' st' σ') := by
  intro L
  induction L with
  | nil =>
    intro L9 j ls ls' st st' σ σ' gs _ h
    cases h
    exact (gd_t trivial).symm
  | cons e L ih =>
    intro L9 j ls ls' st st' σ σ' gs hd h
    obtain ⟨hT, hd2⟩ := T_drop ht hd
    simp only [usk] at h
    split at h
    · cases h
    · rename_i gs1 ls1 st1 σ1 hu
      split at h
      · cases h
      · rename_i hs r hr
        cases h
        have h2 := ih L9 (j + 1) hd2 hr
        have h3 := us_ok m j hu
        have e1 : j + (e :: L).length = j + 1 + L.length := by simp; omega
        rw [e1]
        by_cases hq : al gs1
        · rw [qq_if_t hq] at h3
          rw [RR_next hT h3, h2, propext (al_app (ps := gs1) (qs := hs)), ← gd_gd, gd_t hq]
        · rw [qq_if_f hq] at h3
          rw [RR_stuck hT h3, gd_f (fun z => hq (al_app.mp z).1)]
/-- k instructions at once -/
theorem us_run {d m : Nat} {tb : List qq_E} (ht : qq_tab.getD m [] = tb) (j k : Nat) {ls ls' : List (Option Value)} {st st' : List Value} {σ σ' : qq_S} {gs : List Prop} (hk : k = ((tb.drop j).take k).length) (h : usk ((tb.drop j).take k) ls st σ = some (gs, ls', st', σ')) : RR d m j ls st σ = gd (al gs) (RR d m (j + k) ls' st' σ') := by
  have h1 := T_run (d := d) ht ((tb.drop j).take k) ((tb.drop j).drop k) j (List.take_append_drop _ _).symm h
  rw [← hk] at h1
  exact h1
theorem us_run0 {d m : Nat} {tb : List qq_E} (ht : qq_tab.getD m [] = tb) (j k : Nat) {ls ls' : List (Option Value)} {st st' : List Value} {σ σ' : qq_S} (hk : k = ((tb.drop j).take k).length) (h : usk ((tb.drop j).take k) ls st σ = some ([], ls', st', σ')) : RR d m j ls st σ = RR d m (j + k) ls' st' σ' := (us_run ht j k hk h).trans (gd_t trivial)
theorem T_at {m : Nat} {tb : List qq_E} (ht : qq_tab.getD m [] = tb) {j : Nat} {e : qq_E} (h : tb[j]? = some e) : qq_T m j = some e := by unfold qq_T; rw [ht]; exact h
/-- branches -/
theorem br_run {d m : Nat} {tb : List qq_E} (ht : qq_tab.getD m [] = tb) {j : Nat} {e : qq_E} {t : Nat} {b : Bool} {ls : List (Option Value)} {st st' : List Value} {σ : qq_S} (h : tb[j]? = some e) (hg : qq_grp e.2.1 e.2.2.2 = 6) (hl : e.2.2.2 = [t]) (hb : qq_br e.2.1 st = some (b, st')) : RR d m j ls st σ = if b = true then RR d m t ls st' σ else RR d m (j + 1) ls st' σ := by
  have hT := T_at ht h
  have hs : qq_step m e j ls st σ = some (.inl (if b then t else j + 1, ls, st', σ)) := by
    unfold qq_step
    simp only [hg]
    simp only [hb, hl]
  rw [RR_next hT hs]
  cases b <;> rfl
theorem br_y {d m : Nat} {tb : List qq_E} (ht : qq_tab.getD m [] = tb) {j : Nat} {e : qq_E} {t : Nat} {ls : List (Option Value)} {st st' : List Value} {σ : qq_S} (P : Prop) [Decidable P] (h : tb[j]? = some e) (hg : qq_grp e.2.1 e.2.2.2 = 6) (hl : e.2.2.2 = [t]) (hb : qq_br e.2.1 st = some (decide P, st')) : RR d m j ls st σ = if P then RR d m t ls st' σ else RR d m (j + 1) ls st' σ := by
  rw [br_run ht h hg hl hb]
  by_cases hP : P
  · rw [if_pos hP, if_pos (decide_eq_true hP)]
  · rw [if_neg hP, if_neg (by rw [decide_eq_false hP]; exact Bool.false_ne_true)]
theorem br_n {d m : Nat} {tb : List qq_E} (ht : qq_tab.getD m [] = tb) {j : Nat} {e : qq_E} {t : Nat} {ls : List (Option Value)} {st st' : List Value} {σ : qq_S} (P : Prop) [Decidable P] (h : tb[j]? = some e) (hg : qq_grp e.2.1 e.2.2.2 = 6) (hl : e.2.2.2 = [t]) (hb : qq_br e.2.1 st = some (decide (¬ P), st')) : RR d m j ls st σ = if P then RR d m (j + 1) ls st' σ else RR d m t ls st' σ := by
  rw [br_run ht h hg hl hb]
  by_cases hP : P
  · rw [if_pos hP, if_neg (by rw [decide_eq_false (fun z => z hP)]; exact Bool.false_ne_true)]
  · rw [if_neg hP, if_pos (decide_eq_true hP)]
theorem br_g {d m : Nat} {tb : List qq_E} (ht : qq_tab.getD m [] = tb) {j : Nat} {e : qq_E} {t : Nat} {ls : List (Option Value)} {st : List Value} {σ : qq_S} (h : tb[j]? = some e) (hg : qq_grp e.2.1 e.2.2.2 = 6) (hl : e.2.2.2 = [t]) (hb : qq_br e.2.1 st = some (true, st)) : RR d m j ls st σ = RR d m t ls st σ := by
  rw [br_run ht h hg hl hb]; rfl
theorem d_ge (x : Int32) : decide (0 ≤ x) = decide (¬ x < 0) := by
  by_cases h : x < 0
  · rw [decide_eq_false (fun z => Int32.not_le.mpr h z), decide_eq_false (fun z => z h)]
  · rw [decide_eq_true (Int32.not_lt.mp h), decide_eq_true h]
theorem d_le (x : Int32) : decide (x ≤ 0) = decide (¬ 0 < x) := by
  by_cases h : 0 < x
  · rw [decide_eq_false (fun z => Int32.not_le.mpr h z), decide_eq_false (fun z => z h)]
  · rw [decide_eq_true (Int32.not_lt.mp h), decide_eq_true h]
theorem d_ge2 (x y : Int32) : decide (y ≤ x) = decide (¬ x < y) := by
  by_cases h : x < y
  · rw [decide_eq_false (fun z => Int32.not_le.mpr h z), decide_eq_false (fun z => z h)]
  · rw [decide_eq_true (Int32.not_lt.mp h), decide_eq_true h]
theorem bc_ge (o : Int) (x : Int32) (st : List Value) : qq_br (.ifCond .ge o) (.int x :: st) = some (decide (¬ x < 0), st) := by rw [← d_ge]; rfl
theorem bc_le (o : Int) (x : Int32) (st : List Value) : qq_br (.ifCond .le o) (.int x :: st) = some (decide (¬ 0 < x), st) := by rw [← d_le]; rfl
theorem b2_ge (o : Int) (x y : Int32) (st : List Value) : qq_br (.if_icmp .ge o) (.int y :: .int x :: st) = some (decide (¬ x < y), st) := by rw [← d_ge2]; rfl
theorem b2_le (o : Int) (x y : Int32) (st : List Value) : qq_br (.if_icmp .le o) (.int y :: .int x :: st) = some (decide (¬ y < x), st) := by rw [← d_ge2]; rfl
theorem br_null {d m : Nat} {tb : List qq_E} (ht : qq_tab.getD m [] = tb) {j : Nat} {e : qq_E} {t a : Nat} {ls : List (Option Value)} {st : List Value} {σ : qq_S} (h : tb[j]? = some e) (hg : qq_grp e.2.1 e.2.2.2 = 6) (hl : e.2.2.2 = [t]) (hi : ∃ o, e.2.1 = .ifnull o) : RR d m j ls (.ref a :: st) σ = gd (a ≠ 2) (if a = 0 then RR d m t ls st σ else RR d m (j + 1) ls st σ) := by
  obtain ⟨o, hi⟩ := hi
  by_cases ha : a = 2
  · rw [gd_f (fun z => z ha)]
    refine RR_stuck (T_at ht h) ?_
    unfold qq_step
    simp only [hg]
    simp only [hi, qq_br, if_pos ha]
  · rw [gd_t ha]
    exact br_y ht (a = 0) h hg hl (by rw [hi]; simp only [qq_br, if_neg ha])
theorem br_nonnull {d m : Nat} {tb : List qq_E} (ht : qq_tab.getD m [] = tb) {j : Nat} {e : qq_E} {t a : Nat} {ls : List (Option Value)} {st : List Value} {σ : qq_S} (h : tb[j]? = some e) (hg : qq_grp e.2.1 e.2.2.2 = 6) (hl : e.2.2.2 = [t]) (hi : ∃ o, e.2.1 = .ifnonnull o) : RR d m j ls (.ref a :: st) σ = gd (a ≠ 2) (if a = 0 then RR d m (j + 1) ls st σ else RR d m t ls st σ) := by
  obtain ⟨o, hi⟩ := hi
  by_cases ha : a = 2
  · rw [gd_f (fun z => z ha)]
    refine RR_stuck (T_at ht h) ?_
    unfold qq_step
    simp only [hg]
    simp only [hi, qq_br, if_pos ha]
  · rw [gd_t ha]
    exact br_n ht (a = 0) h hg hl (by rw [hi]; simp only [qq_br, if_neg ha])
theorem sw_run {d m : Nat} {tb : List qq_E} (ht : qq_tab.getD m [] = tb) {j : Nat} {e : qq_E} {t k : Nat} {x : Int32} {ls : List (Option Value)} {st : List Value} {σ : qq_S} (h : tb[j]? = some e) (hg : qq_grp e.2.1 e.2.2.2 = 7) (hs : qq_sw e.2.1 x = some k) (hk : e.2.2.2[k]? = some t) : RR d m j ls (.int x :: st) σ = RR d m t ls st σ := by
  refine RR_next (T_at ht h) ?_
  unfold qq_step
  simp only [hg]
  simp only [hs, hk]
/-- ends -/
theorem rt_run {d m : Nat} {tb : List qq_E} (ht : qq_tab.getD m [] = tb) {j : Nat} {e : qq_E} {v : Option Value} {ls : List (Option Value)} {st : List Value} {σ : qq_S} (h : tb[j]? = some e) (hg : qq_grp e.2.1 e.2.2.2 = 11) (P : Prop) (hr : qq_rt m e.2.1 st = qq_if P (some v) none) : RR d m j ls st σ = gd P (some (.inl v, σ)) := by
  have hT := T_at ht h
  by_cases hP : P
  · rw [qq_if_t hP] at hr
    rw [gd_t hP]
    exact RR_ret0 hT (by unfold qq_step; simp only [hg]; simp only [hr])
  · rw [qq_if_f hP] at hr
    rw [gd_f hP]
    exact RR_stuck hT (by unfold qq_step; simp only [hg]; simp only [hr])
theorem rt_run0 {d m : Nat} {tb : List qq_E} (ht : qq_tab.getD m [] = tb) {j : Nat} {e : qq_E} {v : Option Value} {ls : List (Option Value)} {st : List Value} {σ : qq_S} (h : tb[j]? = some e) (hg : qq_grp e.2.1 e.2.2.2 = 11) (hr : qq_rt m e.2.1 st = some v) : RR d m j ls st σ = some (.inl v, σ) := (rt_run ht h hg True (hr.trans (qq_if_t trivial).symm)).trans (gd_t trivial)
theorem rt_int {m : Nat} (hm : qq_ret m = some .int) (x : Int32) : qq_rt m .ireturn [.int x] = some (some (.int x)) := by simp only [qq_rt, hm]; exact qq_if_t rfl
theorem rt_nar {m : Nat} {ty : FieldType} (hm : qq_ret m = some ty) (x : Int32) : qq_rt m .ireturn [.int x] = qq_if (nr ty x) (some (some (.int x))) none := by simp only [qq_rt, hm]; rfl
theorem rt_void {m : Nat} (hm : qq_ret m = none) : qq_rt m .return_ [] = some none := by simp only [qq_rt]; exact qq_if_t hm
theorem rt_dbl {m : Nat} (hm : qq_ret m = some .double) (x : UInt64) : qq_rt m .dreturn [.double x] = some (some (.double x)) := by simp only [qq_rt]; exact qq_if_t hm
theorem rt_flt {m : Nat} (hm : qq_ret m = some .float) (x : UInt32) : qq_rt m .freturn [.float x] = some (some (.float x)) := by simp only [qq_rt]; exact qq_if_t hm
theorem th_run {d m : Nat} {tb : List qq_E} (ht : qq_tab.getD m [] = tb) {j : Nat} {e : qq_E} {x w : Nat} {ls : List (Option Value)} {st : List Value} {σ : qq_S} (h : tb[j]? = some e) (hg : qq_grp e.2.1 e.2.2.2 = 12) (hl : e.2.2.2 = [1, x, w]) (hc : (st.map fun v => v.category).sum ≤ 8 ∧ qq_hn m = []) : RR d m j ls st σ = some (.inr x, nw_S σ 1 (201, 0) 6) := by
  refine RR_thr0 (T_at ht h) ?_
  unfold qq_step
  simp only [hg]
  simp only [hl, if_pos hc]
/-- calls -/
def us_cal (lk : List Nat) (st : List Value) (σ : qq_S) : Option (List Prop × Nat × List Value × List Value) := match lk with
  | kind :: callee :: n :: c :: _ => if kind ≤ 9 ∧ n ≤ st.length ∧ (qq_sl (st.take n).reverse).length ≤ qq_maxL callee ∧ ((st.drop n).map fun v => v.category).sum ≤ 8 ∧ c < 200 then
      (if kind = 0 ∨ kind = 3 ∨ kind = 8 then some ([], callee, (st.take n).reverse, st.drop n) else (match (st.take n).reverse.head? with
        | some (.ref a) => if kind = 2 ∨ kind = 5 then some ([(kd_S σ a).1 < 200], callee, (st.take n).reverse, st.drop n) else some ([(kd_S σ a).1 = c], callee, (st.take n).reverse, st.drop n)
        | _ => none)) else none
  | _ => none
theorem us_cal_ok {i : Instr} {lk : List Nat} {st : List Value} {σ : qq_S} {gs : List Prop} {r : Nat × List Value × List Value} (h : us_cal lk st σ = some (gs, r)) : qq_cal i lk st σ = qq_if (al gs) (some r) none := by
  unfold us_cal at h
  split at h
  · rename_i kind callee n c tl
    split at h
    · rename_i h1
      simp only [qq_cal]
      split at h
      · rename_i h2
        cases h
        refine qq_if_iff ⟨fun _ => trivial, fun _ => ⟨h1.1, h1.2.1, h1.2.2.1, h1.2.2.2.1, fun q1 q2 q3 => ?_⟩⟩
        rcases h2 with h2 | h2 | h2
        · exact absurd h2 q1
        · exact absurd h2 q2
        · exact absurd h2 q3
      · rename_i h2
        split at h
        · rename_i a ha
          have hk : kind ≠ 0 ∧ kind ≠ 3 ∧ kind ≠ 8 := ⟨fun q => h2 (Or.inl q), fun q => h2 (Or.inr (Or.inl q)), fun q => h2 (Or.inr (Or.inr q))⟩
          split at h
          · rename_i h3
            cases h
            refine qq_if_iff ⟨fun q => ?_, fun q => ⟨h1.1, h1.2.1, h1.2.2.1, h1.2.2.2.1, fun _ _ _ => ⟨a, ha, q, fun q1 q2 => ?_⟩⟩⟩
            · obtain ⟨a', e1, e2, -⟩ := q.2.2.2.2 hk.1 hk.2.1 hk.2.2
              rw [ha] at e1
              cases e1
              exact e2
            · rcases h3 with h3 | h3
              · exact absurd h3 q1
              · exact absurd h3 q2
          · rename_i h3
            cases h
            refine qq_if_iff ⟨fun q => ?_, fun q => ⟨h1.1, h1.2.1, h1.2.2.1, h1.2.2.2.1, fun _ _ _ => ⟨a, ha, ?_, fun _ _ => q⟩⟩⟩
            · obtain ⟨a', e1, -, e2⟩ := q.2.2.2.2 hk.1 hk.2.1 hk.2.2
              rw [ha] at e1
              cases e1
              exact e2 (fun z => h3 (Or.inl z)) (fun z => h3 (Or.inr z))
            · have q : (kd_S σ a).1 = c := q
              rw [q]; exact h1.2.2.2.2
        · cases h
    · cases h
  · cases h
theorem cl_run {d m : Nat} {tb : List qq_E} (ht : qq_tab.getD m [] = tb) {j : Nat} {e : qq_E} {c : Nat} {av rest : List Value} {gs : List Prop} {ls : List (Option Value)} {st : List Value} {σ : qq_S} (h : tb[j]? = some e) (hg : qq_grp e.2.1 e.2.2.2 = 10) (hh : qq_hn m = []) (hu : us_cal e.2.2.2 st σ = some (gs, c, av, rest)) :
    RR (d + 1) m j ls st σ = gd (al gs) (bd (CC d c av σ) (fun v σ' => RR (d + 1) m (j + 1) ls (vl v rest) σ')) := by
  have hT := T_at ht h
  have hc := us_cal_ok (i := e.2.1) hu
  by_cases hq : al gs
  · rw [qq_if_t hq] at hc
    rw [gd_t hq]
    have hs : qq_step m e j ls st σ = some (.inr (.inl (c, av, rest))) := by unfold qq_step; simp only [hg]; simp only [hc]
    refine RR_ext (fun r => ⟨fun ⟨n, hn⟩ => ?_, fun h9 => ?_⟩)
    · cases n with
      | zero => simp [qq_run] at hn
      | succ n =>
        rw [qq_run, hT] at hn
        simp only [hs] at hn
        split at hn
        · cases hn
        · rename_i v σ' hr
          have h1 : CC d c av σ = some (.inl v, σ') := RR_iff.mpr ⟨n, hr⟩
          rw [h1, bd_ret, ← vl_eq]
          exact RR_iff.mpr ⟨n, hn⟩
        · rename_i x σ' hr
          have h1 : CC d c av σ = some (.inr x, σ') := RR_iff.mpr ⟨n, hr⟩
          rw [h1, bd_thr]
          rw [hh] at hn
          exact hn
    · cases hcc : CC d c av σ with
      | none => rw [hcc] at h9; cases h9
      | some q =>
        obtain ⟨o, σ'⟩ := q
        obtain ⟨n1, hn1⟩ := RR_iff.mp hcc
        rw [hcc] at h9
        cases o with
        | inl v =>
          rw [bd_ret, ← vl_eq] at h9
          obtain ⟨n2, hn2⟩ := RR_iff.mp h9
          refine ⟨max n1 n2 + 1, ?_⟩
          rw [qq_run, hT]
          simp only [hs, qq_mono hn1 (Nat.le_max_left n1 n2)]
          exact qq_mono hn2 (Nat.le_max_right n1 n2)
        | inr x =>
          rw [bd_thr] at h9
          refine ⟨n1 + 1, ?_⟩
          rw [qq_run, hT]
          simp only [hs, hn1, hh]
          exact h9
  · rw [qq_if_f hq] at hc
    rw [gd_f hq]
    exact RR_stuck hT (by unfold qq_step; simp only [hg]; simp only [hc])
theorem cl_run0 {d m : Nat} {tb : List qq_E} (ht : qq_tab.getD m [] = tb) {j : Nat} {e : qq_E} {c : Nat} {av rest : List Value} {ls : List (Option Value)} {st : List Value} {σ : qq_S} (h : tb[j]? = some e) (hg : qq_grp e.2.1 e.2.2.2 = 10) (hh : qq_hn m = []) (hu : us_cal e.2.2.2 st σ = some ([], c, av, rest)) :
    RR (d + 1) m j ls st σ = bd (CC d c av σ) (fun v σ' => RR (d + 1) m (j + 1) ls (vl v rest) σ') := (cl_run ht h hg hh hu).trans (gd_t trivial)
/-- a call in a method with handlers -/
theorem ch_run {d m : Nat} {tb : List qq_E} (ht : qq_tab.getD m [] = tb) {j : Nat} {e : qq_E} {c : Nat} {av rest : List Value} {gs : List Prop} {ls : List (Option Value)} {st : List Value} {σ : qq_S} (h : tb[j]? = some e) (hg : qq_grp e.2.1 e.2.2.2 = 10) (hh : qq_hn m ≠ []) (hu : us_cal e.2.2.2 st σ = some (gs, c, av, rest)) :
    RR (d + 1) m j ls st σ = gd (al gs) (bdh (CC d c av σ) (fun v σ' => RR (d + 1) m (j + 1) ls (vl v rest) σ') (fun x σ' => match qq_han m j x ls with | none => none | some h => RR (d + 1) m (h.1 + 1) ((qq_set ls h.2 (.ref 0)).set h.2 none) [] σ')) := by
  have hT := T_at ht h
  have hc := us_cal_ok (i := e.2.1) hu
  by_cases hq : al gs
  · rw [qq_if_t hq] at hc
    rw [gd_t hq]
    have hs : qq_step m e j ls st σ = some (.inr (.inl (c, av, rest))) := by unfold qq_step; simp only [hg]; simp only [hc]
    refine RR_ext (fun r => ⟨fun ⟨n, hn⟩ => ?_, fun h9 => ?_⟩)
    · cases n with
      | zero => simp [qq_run] at hn
      | succ n =>
        rw [qq_run, hT] at hn
        simp only [hs] at hn
        split at hn
        · cases hn
        · rename_i v σ' hr
          have h1 : CC d c av σ = some (.inl v, σ') := RR_iff.mpr ⟨n, hr⟩
          rw [h1, bdh_ret, ← vl_eq]
          exact RR_iff.mpr ⟨n, hn⟩
        · rename_i x σ' hr
          have h1 : CC d c av σ = some (.inr x, σ') := RR_iff.mpr ⟨n, hr⟩
          rw [h1, bdh_thr]
          split at hn
          · cases hn
          · rename_i h7 hh7
            simp only [hh7]
            exact RR_iff.mpr ⟨n, hn⟩
    · cases hcc : CC d c av σ with
      | none => rw [hcc] at h9; cases h9
      | some q =>
        obtain ⟨o, σ'⟩ := q
        obtain ⟨n1, hn1⟩ := RR_iff.mp hcc
        rw [hcc] at h9
        cases o with
        | inl v =>
          rw [bdh_ret, ← vl_eq] at h9
          obtain ⟨n2, hn2⟩ := RR_iff.mp h9
          refine ⟨max n1 n2 + 1, ?_⟩
          rw [qq_run, hT]
          simp only [hs, qq_mono hn1 (Nat.le_max_left n1 n2)]
          exact qq_mono hn2 (Nat.le_max_right n1 n2)
        | inr x =>
          rw [bdh_thr] at h9
          split at h9
          · cases h9
          · rename_i h7 hh7
            obtain ⟨n2, hn2⟩ := RR_iff.mp h9
            refine ⟨max n1 n2 + 1, ?_⟩
            rw [qq_run, hT]
            simp only [hs, qq_mono hn1 (Nat.le_max_left n1 n2)]
            split
            · rename_i h8; rw [hh7] at h8; cases h8
            · rename_i h8 hh8; rw [hh7] at hh8; cases hh8
              exact qq_mono hn2 (Nat.le_max_right n1 n2)
  · rw [qq_if_f hq] at hc
    rw [gd_f hq]
    exact RR_stuck hT (by unfold qq_step; simp only [hg]; simp only [hc])
/-- a natural number as an int -/
def iN (n : Nat) : Int32 := Int32.ofNat n
