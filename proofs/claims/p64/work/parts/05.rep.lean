/-! WHAT THE ABSTRACT STATE SAYS OF THE HEAP -/
/-- class ids, slots of fields, classes of arrays, addresses of the constants, the heap at the start -/
abbrev qq_X : Type := (Nat → ClassId) × (Nat → Nat → Nat) × (Nat → ClassId) × (Nat → Option Nat) × Heap
def xb_ (X : qq_X) : Nat := X.2.2.2.2.size
def ro_ (X : qq_X) (a : Nat) : Option Nat := if a < qq_K0 then X.2.2.2.1 a else some (xb_ X + (a - qq_K0))
def rv_ (X : qq_X) (v : Value) : Value := match v with
  | .ref a => va_rf (ro_ X a)
  | v => v
theorem rv_cat (X : qq_X) (v : Value) : (rv_ X v).category = v.category := by
  cases v with
  | ref a => simp only [rv_]; cases ro_ X a <;> rfl
  | _ => rfl
theorem rv_cats (X : qq_X) (st : List Value) : ((st.map (rv_ X)).map fun v => v.category) = st.map fun v => v.category := by
  rw [List.map_map]; exact List.map_congr_left (fun v _ => rv_cat X v)
def nestW : Jvm.Cond → Bool
  | .fieldLinkNest .. => true
  | .methodLinkNest .. => true
  | .declares _ => true
  | .castable .. => true
  | .arrayOver (.object _) => true
  | .arrayOver (.array _) => true
  | _ => false
/-- the kinds of the constants -/
def qq_ck (a : Nat) : Nat := qq_cks.getD a 200
/-- an array as it is read -/
def qq_Ar (U : State) (H : Heap) (p t n : Nat) (V : Nat → Value) : Prop := ∃ cell : Cell, H[p]? = some cell ∧ U.isArrayOf cell (qq_et t) ∧ cell.vm ≠ .unknown ∧ cell.vm.isStatics = false ∧ cell.slots.size = n ∧ ∀ j, j < n → cell.slots[j]? = some (V j)
/-- an object as it is read -/
def qq_Ob (H : Heap) (p : Nat) (cC : ClassId) (N : Nat) (iS : Nat → Nat) (V : Nat → Value) : Prop := ∃ cell : Cell, H[p]? = some cell ∧ cell.cls = cC ∧ cell.vm ≠ .unknown ∧ cell.vm.isStatics = false ∧ ∀ k, k < N → cell.slots[iS k]? = some (V k)
/-- what the tables say: of the state at a method's entry -/
def qq_Fx (X : qq_X) (U : State) : Prop :=
  (∀ (i : Nat) (w : Jvm.Cond), qq_tbl[i]? = some w → goodWord w = true → ∀ a' : Array Value, w.before a' U = true) ∧
  (∀ (i : Nat) (w : Jvm.Cond), qq_tbl[i]? = some w → nestW w = true → va_Nw w U) ∧
  (∀ (c : Nat) (q : vw_C), qq_cl[c]? = some q → U.vm.findClass q.1 = some (X.1 c) ∧ ∀ k, k < q.2.2 → ∃ cf kf fi fd, U.fieldFound? (q.2.1 k).1 (q.2.1 k).2.1 (q.2.1 k).2.2.1 = some (cf, kf, fi, fd) ∧ fd.isStatic = false ∧ fd.slot = X.2.1 c k) ∧
  (∀ t : Nat, qq_at t = true → ArrOfT U (X.2.2.1 t) (qq_et t) ∧ va_RA U (X.2.2.1 t) (qq_et t)) ∧
  (∀ (i : Nat) (q : String × Nat × String × Nat), qq_strs[i]? = some q → ∃ a : Nat, X.2.2.2.1 q.2.2.2 = some a ∧ vk_R q.1 q.2.1 q.2.2.1 a U) ∧
  (∀ a : Nat, a < qq_K0 → qq_at (qq_ck a) = true → ∃ (p : Nat) (cell : Cell), X.2.2.2.1 a = some p ∧ X.2.2.2.2[p]? = some cell ∧ U.isArrayOf cell (qq_et (qq_ck a)) ∧ cell.vm ≠ .unknown ∧ cell.vm.isStatics = false) ∧
  (∀ (i : Nat) (q : String × String × String × Value), qq_stat[i]? = some q → va_Z q.1 q.2.1 q.2.2.1 (rv_ X q.2.2.2) (fun z : Nat => xb_ X ≤ z) U X.2.2.2.2) ∧
  (∀ (i j : Nat) (q r : String × Nat × Nat × List String), qq_ex[i]? = some q → qq_ex[j]? = some r → i ≠ j → va_Nc q.1 r.1 U) ∧
  vx_Zq Bundle.tN "UNASSIGNED_STACK" Bundle.steD (fun z : Nat => xb_ X ≤ z) U X.2.2.2.2 ∧ vx_Zq Bundle.tN "SUPPRESSED_SENTINEL" Bundle.listD (fun z : Nat => xb_ X ≤ z) U X.2.2.2.2 ∧
  X.2.2.2.1 0 = none ∧ (∀ a : Nat, a ≠ 0 → a ≠ 2 → a < qq_K0 → ∃ q, X.2.2.2.1 a = some q)
/-- a cell as the abstract state has it -/
def qq_Ce (X : qq_X) (σ : qq_S) (a : Nat) (H : Heap) : Prop :=
  if (kd_S σ a).1 < 100 then (kd_S σ a).1 < qq_cl.length ∧ t_OB (xb_ X + (a - qq_K0)) (X.1 (kd_S σ a).1) (qq_nf (kd_S σ a).1) (X.2.1 (kd_S σ a).1) H (fun k => rv_ X (qq_val σ (qq_ty (kd_S σ a).1 k) a k))
  else if (kd_S σ a).1 < 200 then qq_at (kd_S σ a).1 = true ∧ H[xb_ X + (a - qq_K0)]? = some (arrV (X.2.2.1 (kd_S σ a).1) (kd_S σ a).2 (fun j => rv_ X (qq_val σ (qq_et (kd_S σ a).1) a j))) else True
/-- a constant's cell -/
def qq_Co (X : qq_X) (σ : qq_S) (a : Nat) : Prop := (kd_S σ a).1 = qq_ck a ∧
  if qq_ck a < 100 then ∃ p : Nat, X.2.2.2.1 a = some p ∧ qq_Ob X.2.2.2.2 p (X.1 (qq_ck a)) (qq_nr (qq_ck a)) (X.2.1 (qq_ck a)) (fun k => rv_ X (qq_val σ (qq_ty (qq_ck a) k) a k))
  else if qq_ck a < 200 then ∀ (p : Nat) (cell : Cell), X.2.2.2.1 a = some p → X.2.2.2.2[p]? = some cell → cell.slots.size = (kd_S σ a).2 ∧ ∀ j, j < (kd_S σ a).2 → cell.slots[j]? = some (rv_ X (qq_val σ (qq_et (qq_ck a)) a j)) else True
def qq_Hp (X : qq_X) (σ : qq_S) (H : Heap) : Prop :=
  qq_K0 ≤ sz_S σ ∧ H.size = xb_ X + (sz_S σ - qq_K0) ∧ (∀ q : Nat, q < xb_ X → H[q]? = X.2.2.2.2[q]?) ∧ (∀ a : Nat, sz_S σ ≤ a → (kd_S σ a).1 = 200) ∧
  (∀ a : Nat, a < qq_K0 → qq_Co X σ a) ∧ (∀ a : Nat, qq_K0 ≤ a → a < sz_S σ → qq_Ce X σ a H)
theorem ao_moved {t : FieldType} (ht : (match t with | .object _ => true | .array _ => true | _ => false) = true) {u U : State} (hvm : u.vm.Alike U.vm) (h : va_Nw (.arrayOver t) u) : va_Nw (.arrayOver t) U := by
  cases t with
  | object C => exact va_AO.moved hvm h
  | array t => exact Stand.arrayOver_alikeB hvm h
  | _ => cases ht
theorem Fx_word {X : qq_X} {U : State} (h : qq_Fx X U) {i : Nat} {w : Jvm.Cond} (hw : qq_tbl[i]? = some w) (hg : goodWord w = true) {a' : Array Value} : w.before a' U = true := h.1 i w hw hg a'
theorem Fx_nw {X : qq_X} {U : State} (h : qq_Fx X U) {i : Nat} {w : Jvm.Cond} (hw : qq_tbl[i]? = some w) (hg : nestW w = true) : va_Nw w U := h.2.1 i w hw hg
theorem Fx_moved {X : qq_X} {s U : State} (h : qq_Fx X s) (hW : s.WarmedH U.vm) : qq_Fx X U := by
  have hal := hW.alike
  obtain ⟨h1, h2, h3, h4, h5, h6, h7, h8, h9, h10, h11, h12⟩ := h
  refine ⟨fun i w hw hg a' => word_at (args := #[]) hW (good_of_word hg) (h1 i w hw hg #[]), fun i w hw hg => ?_, fun c q hq => ?_, fun t ht => ?_, fun i q hq => ?_, fun a ha hat => ?_, fun i q hq => va_Z.moved hal (h7 i q hq), fun i j q r hq hr hij => va_Nc.moved hal (h8 i j q r hq hr hij), vx_Zq.moved hal h9, vx_Zq.moved hal h10, h11, h12⟩
  · have h0 := h2 i w hw hg
    cases w <;> first | exact va_Nw.warmF hW h0 | exact va_Nw.warmM hW h0 | exact va_Nw.warmD hW h0 | exact va_Nw.warmC hW h0 | (rename_i t; cases t <;> first | (exact ao_moved rfl hal h0) | cases hg) | cases hg
  · obtain ⟨g1, g2⟩ := h3 c q hq
    refine ⟨by rw [hal.findClass]; exact g1, fun k hk => ?_⟩
    obtain ⟨cf, kf, fi, fd, e1, e2⟩ := g2 k hk
    obtain ⟨k', e3, -⟩ := State.fieldFound?_setVm hal e1
    exact ⟨cf, k', fi, fd, e3, e2⟩
  · obtain ⟨g1, g2⟩ := h4 t ht
    exact ⟨arrOfT_moved hal g1, g2.moved hal⟩
  · obtain ⟨a, g1, g2⟩ := h5 i q hq
    exact ⟨a, g1, g2.warm hW⟩
  · obtain ⟨q, cell, g1, g2, g3, g4⟩ := h6 a ha hat
    exact ⟨q, cell, g1, g2, State.isArrayOf_alike hal g3, g4⟩
