/-! THE START: what stands at the law's entry -/
section SD
variable {b L : Nat} {xs : Nat → Int32} {s : State}
def qX (b : Nat) (s : State) : qq_X := (q1 s, q2 s, q3 s, q4 b s, s.heap)
def K0 (L a : Nat) : Nat × Nat := if a = 1 then (100, L) else if a = 66 then (112, 9) else if a = 67 then (100, 9) else if a = 68 ∨ a = 69 then (102, 100) else if 4 ≤ a ∧ a < 57 ∧ a % 2 = 0 then (102, (txt ((a - 4) / 2)).length) else (qq_ck a, 0)
def R0 (a k : Nat) : Nat := if a < 57 then a + 1 else if a < 66 then 39 + 2 * (a - 57) else 57 + k
def I0 (xs : Nat → Int32) (a k : Nat) : Int32 := if a = 1 then xs k else if a = 67 then iN (if k < 8 then k + 1 else 0) else if a = 68 then iN (48 + k / 10) else if a = 69 then iN (48 + k % 10) else if a < 57 ∧ a % 2 = 0 then iN ((txt ((a - 4) / 2)).getD k 0) else if 57 ≤ a then iN (a - 57) else iN 0
def T0 (L : Nat) : qq_R := (R0, fun _ _ => 0, fun _ _ => 0, K0 L, 70, 0)
theorem ck_S : ∀ i, i < 27 → qq_ck (3 + 2 * i) = 0 := by decide
theorem ck_V : ∀ i, i < 27 → qq_ck (4 + 2 * i) = 102 := by decide
theorem ck_C : ∀ i, i < 9 → qq_ck (57 + i) = 1 := by decide
theorem K0_S {i : Nat} (hi : i < 27) : K0 L (3 + 2 * i) = (0, 0) := by
  unfold K0
  rw [if_neg (by omega), if_neg (by omega), if_neg (by omega), if_neg (by omega), if_neg (by omega), ck_S i hi]
theorem K0_V {i : Nat} (hi : i < 27) : K0 L (4 + 2 * i) = (102, (txt i).length) := by
  unfold K0
  rw [if_neg (by omega), if_neg (by omega), if_neg (by omega), if_neg (by omega), if_pos (by omega), show (4 + 2 * i - 4) / 2 = i by omega]
theorem K0_C {i : Nat} (hi : i < 9) : K0 L (57 + i) = (1, 0) := by
  unfold K0
  rw [if_neg (by omega), if_neg (by omega), if_neg (by omega), if_neg (by omega), if_neg (by omega), ck_C i hi]
theorem I0_S {i k : Nat} (hi : i < 27) : I0 xs (3 + 2 * i) k = iN 0 := by
  unfold I0
  rw [if_neg (by omega), if_neg (by omega), if_neg (by omega), if_neg (by omega), if_neg (by omega), if_neg (by omega)]
theorem I0_V {i k : Nat} (hi : i < 27) : I0 xs (4 + 2 * i) k = iN ((txt i).getD k 0) := by
  unfold I0
  rw [if_neg (by omega), if_neg (by omega), if_neg (by omega), if_neg (by omega), if_pos (by omega), show (4 + 2 * i - 4) / 2 = i by omega]
theorem I0_C {i k : Nat} (hi : i < 9) : I0 xs (57 + i) k = iN i := by
  unfold I0
  rw [if_neg (by omega), if_neg (by omega), if_neg (by omega), if_neg (by omega), if_neg (by omega), if_pos (by omega), show 57 + i - 57 = i by omega]
theorem R0_S {i k : Nat} (hi : i < 27) : R0 (3 + 2 * i) k = 4 + 2 * i := by
  unfold R0
  rw [if_pos (by omega)]
  omega
theorem R0_C {i k : Nat} (hi : i < 9) : R0 (57 + i) k = 39 + 2 * i := by
  unfold R0
  rw [if_neg (by omega), if_pos (by omega), show 57 + i - 57 = i by omega]
theorem ktab_eq : ktab = (List.range 27).map (fun i => (3 + 2 * i, txt i)) := by decide +kernel
theorem txt_ok : ((List.range 27).all (fun i => decide ((txt i).length ≤ 60) && (txt i).all (fun c => decide (c < 128)))) = true := by decide +kernel
theorem KC_0 : KC (I0 xs) (T0 L) := by
  refine ⟨⟨rfl, rfl, fun i _ => rfl, fun i _ => rfl⟩, fun p hp => ?_, rfl, fun i hi => ⟨rfl, K0_C hi, I0_C hi, R0_C hi⟩, rfl, fun i _ => rfl⟩
  rw [ktab_eq] at hp
  obtain ⟨i, hi, rfl⟩ := List.mem_map.mp hp
  have hi : i < 27 := List.mem_range.mp hi
  have h := List.all_eq_true.mp txt_ok i (List.mem_range.mpr hi)
  simp only [Bool.and_eq_true, decide_eq_true_eq, List.all_eq_true] at h
  have e : 3 + 2 * i + 1 = 4 + 2 * i := by omega
  refine ⟨by show 3 ≤ 3 + 2 * i; omega, by show 3 + 2 * i + 1 < 70; omega, K0_S hi, (R0_S hi).trans e.symm, ?_, I0_S hi, h.1, h.2, fun j hj => ?_⟩
  · show K0 L (3 + 2 * i + 1) = _
    rw [e]; exact K0_V hi
  · show I0 xs (3 + 2 * i + 1) j = _
    rw [e, I0_V hi, List.getD_eq_getElem?_getD, List.getElem?_eq_getElem hj]
    rfl
theorem rvc {b a p : Nat} (ha : a < 70) (h0 : a ≠ 0) (h : (qk_t a).eval #[Value.ref b] s none [] s = some (.ref p)) : rv_ (qX b s) (.ref a) = .ref p := by
  show va_rf (ro_ (qX b s) a) = _
  rw [ro_con ha]
  show va_rf (q4 b s a) = _
  rw [q4_of h0 h]
  rfl
/-- a constant that is an array -/
theorem Co_ar {a n : Nat} (hk : K0 L a = (qq_ck a, n)) (h1 : 100 ≤ qq_ck a) (h2 : qq_ck a < 200) (h0 : a ≠ 0) {p : Nat} {cell : Cell} (he : (qk_t a).eval #[Value.ref b] s none [] s = some (.ref p)) (hc : s.heap[p]? = some cell) (hs : cell.slots.size = n) (hv : ∀ j, j < n → cell.slots[j]? = some (rv_ (qX b s) (qq_val (I0 xs, T0 L) (qq_et (qq_ck a)) a j))) : qq_Co (qX b s) (I0 xs, T0 L) a := by
  have hk2 : kd_S (I0 xs, T0 L) a = (qq_ck a, n) := hk
  refine ⟨congrArg Prod.fst hk2, ?_⟩
  rw [if_neg (by omega), if_pos h2]
  intro p' cell' hp' hc'
  have e : q4 b s a = some p' := hp'
  rw [q4_of h0 he] at e
  cases e
  cases hc.symm.trans hc'
  rw [hk2]
  exact ⟨hs, hv⟩
theorem Co_no {a : Nat} (hk : (K0 L a).1 = qq_ck a) (h : 200 ≤ qq_ck a) : qq_Co (qX b s) (I0 xs, T0 L) a := by
  refine ⟨hk, ?_⟩
  rw [if_neg (by omega), if_neg (by omega)]
  trivial
/-- a constant that is an object -/
theorem Co_ob {a : Nat} (hk : (K0 L a).1 = qq_ck a) (h1 : qq_ck a < 100) (h0 : a ≠ 0) {p : Nat} (he : (qk_t a).eval #[Value.ref b] s none [] s = some (.ref p)) (ho : qq_Ob s.heap p (q1 s (qq_ck a)) (qq_nr (qq_ck a)) (q2 s (qq_ck a)) (fun k => rv_ (qX b s) (qq_val (I0 xs, T0 L) (qq_ty (qq_ck a) k) a k))) : qq_Co (qX b s) (I0 xs, T0 L) a := by
  refine ⟨hk, ?_⟩
  rw [if_pos h1]
  exact ⟨p, q4_of h0 he, ho⟩
theorem q1_0 {c : ClassId} (h : s.vm.findClass "java/lang/String" = some c) : q1 s 0 = c := by
  show (s.vm.findClass "java/lang/String").getD 0 = c
  rw [h]; rfl
theorem q1_1 {c : ClassId} (h : s.vm.findClass "StatueChancery$Command" = some c) : q1 s 1 = c := by
  show (s.vm.findClass "StatueChancery$Command").getD 0 = c
  rw [h]; rfl
theorem in_67 (hN : ∀ c ∈ flN, c.before #[Value.ref b] s = true) : ∃ (t : Nat) (cell : Cell), (tA 67).eval #[Value.ref b] s none [] s = some (.ref t) ∧ s.heap[t]? = some cell ∧ s.isArrayOf cell .int ∧ cell.vm ≠ .unknown ∧ cell.vm.isStatics = false ∧ cell.slots.size = 9 ∧ ∀ j, j < 9 → cell.slots[j]? = some (.int (iN (if j < 8 then j + 1 else 0))) := ia_f (f := fun j => if j < 8 then j + 1 else 0) (by omega) (fun c h => hN c (dt_in mC_67 h))
theorem in_68 (hN : ∀ c ∈ flN, c.before #[Value.ref b] s = true) : ∃ (t : Nat) (cell : Cell), (tA 68).eval #[Value.ref b] s none [] s = some (.ref t) ∧ s.heap[t]? = some cell ∧ s.isArrayOf cell .byte ∧ cell.vm ≠ .unknown ∧ cell.vm.isStatics = false ∧ cell.slots.size = 100 ∧ ∀ j, j < 100 → cell.slots[j]? = some (.int (iN (48 + j / 10))) := ia_f (f := fun j => 48 + j / 10) (by omega) (fun c h => hN c (dt_in mC_68 h))
theorem in_69 (hN : ∀ c ∈ flN, c.before #[Value.ref b] s = true) : ∃ (t : Nat) (cell : Cell), (tA 69).eval #[Value.ref b] s none [] s = some (.ref t) ∧ s.heap[t]? = some cell ∧ s.isArrayOf cell .byte ∧ cell.vm ≠ .unknown ∧ cell.vm.isStatics = false ∧ cell.slots.size = 100 ∧ ∀ j, j < 100 → cell.slots[j]? = some (.int (iN (48 + j % 10))) := ia_f (f := fun j => 48 + j % 10) (by omega) (fun c h => hN c (dt_in mC_69 h))
theorem in_66 (hN : ∀ c ∈ flN, c.before #[Value.ref b] s = true) : ∃ (t : Nat) (cell : Cell), (tA 66).eval #[Value.ref b] s none [] s = some (.ref t) ∧ s.heap[t]? = some cell ∧ s.isArrayOf cell (.object "StatueChancery$Command") ∧ cell.vm ≠ .unknown ∧ cell.vm.isStatics = false ∧ cell.slots.size = 9 ∧ ∀ j, j < 9 → cell.slots[j]? = some (rv_ (qX b s) (.ref (57 + j))) := by
  refine ar_of (by omega) (hN _ (dt_in mC_66 List.mem_cons_self)) (hN _ (dt_in mC_66 (List.mem_cons_of_mem _ List.mem_cons_self))) (fun j hj => ?_)
  obtain ⟨p, pf, cell, h1, -⟩ := cmd_f hN hj
  have h2 := hN _ (dt_in mC_66e (List.mem_map.mpr ⟨j, List.mem_range.mpr hj, rfl⟩))
  rw [rvc (by omega) (by omega) (by rw [qk_C hj]; exact h1)]
  exact va_eqv h2 h1
/-- the heap at the start -/
theorem Hp_0 (hN : ∀ c ∈ flN, c.before #[Value.ref b] s = true) (hX : va_X b L xs s s.heap) : qq_Hp (qX b s) (I0 xs, T0 L) s.heap := by
  refine ⟨Nat.le_refl _, rfl, fun q _ => rfl, fun a ha => ?_, fun a ha => ?_, fun a h1 h2 => absurd h2 (Nat.not_lt.mpr h1)⟩
  · have ha : 70 ≤ a := ha
    show (K0 L a).1 = 200
    unfold K0
    rw [if_neg (by omega), if_neg (by omega), if_neg (by omega), if_neg (by omega), if_neg (by omega)]
    show qq_cks.getD a 200 = 200
    rw [List.getD_eq_getElem?_getD, List.getElem?_eq_none (show qq_cks.length ≤ a from ha)]
    rfl
  · have ha : a < 70 := ha
    by_cases c0 : a = 0
    · subst c0; exact Co_no rfl (by decide)
    by_cases c1 : a = 1
    · subst c1
      obtain ⟨scr, x1, x2, x3, x4, x5⟩ := hX
      exact Co_ar (n := L) rfl (by decide) (by decide) (by decide) (show (Term.arg 0).eval #[Value.ref b] s none [] s = some (.ref b) from rfl) x1 x4 x5
    by_cases c2 : a = 2
    · subst c2; exact Co_no rfl (by decide)
    by_cases c57 : a < 57
    · by_cases odd : a % 2 = 1
      · obtain ⟨i, hi, rfl⟩ : ∃ i, i < 27 ∧ a = 3 + 2 * i := ⟨(a - 3) / 2, by omega, by omega⟩
        obtain ⟨p, pv, cell, av, h1, h2, h3, h4, h5, h6, h7, h8, -⟩ := str_f hN hi
        refine Co_ob (by rw [K0_S hi, ck_S i hi]) (by rw [ck_S i hi]; omega) (by omega) (by rw [qk_S hi]; exact h1) ?_
        rw [ck_S i hi]
        refine ⟨cell, h3, (q1_0 h4).symm, h5, h6, fun k hk => ?_⟩
        have hk : k < 2 := hk
        have hr := rvc (s := s) (b := b) (a := 4 + 2 * i) (p := pv) (by omega) (by omega) (by rw [qk_V hi]; exact h2)
        match k, hk with
        | 0, _ =>
          show _ = some (rv_ (qX b s) (Value.ref (R0 (3 + 2 * i) 0)))
          rw [R0_S hi, hr]; exact h7
        | 1, _ =>
          show _ = some (Value.int (I0 xs (3 + 2 * i) 1))
          rw [I0_S hi]; exact h8
      · obtain ⟨i, hi, rfl⟩ : ∃ i, i < 27 ∧ a = 4 + 2 * i := ⟨(a - 4) / 2, by omega, by omega⟩
        obtain ⟨p, pv, cell, av, h1, h2, h3, h4, h5, h6, h7, h8, h9, h10, h11, h12, h13, h14, -⟩ := str_f hN hi
        refine Co_ar (n := (txt i).length) (by rw [K0_V hi, ck_V i hi]) (by rw [ck_V i hi]; omega) (by rw [ck_V i hi]; omega) (by omega) (by rw [qk_V hi]; exact h2) h9 h13 (fun j hj => ?_)
        rw [ck_V i hi]
        show _ = some (Value.int (I0 xs (4 + 2 * i) j))
        rw [I0_V hi]; exact h14 j hj
    by_cases c66 : a < 66
    · obtain ⟨i, hi, rfl⟩ : ∃ i, i < 9 ∧ a = 57 + i := ⟨a - 57, by omega, by omega⟩
      obtain ⟨p, pf, cell, h1, h2, h3, h4, h5, h6, h7, h8, -⟩ := cmd_f hN hi
      refine Co_ob (by rw [K0_C hi, ck_C i hi]) (by rw [ck_C i hi]; omega) (by omega) (by rw [qk_C hi]; exact h1) ?_
      rw [ck_C i hi]
      refine ⟨cell, h3, (q1_1 h4).symm, h5, h6, fun k hk => ?_⟩
      have hk : k < 2 := hk
      have e : 39 + 2 * i = 3 + 2 * (18 + i) := by omega
      have hr := rvc (s := s) (b := b) (a := 3 + 2 * (18 + i)) (p := pf) (by omega) (by omega) (by rw [qk_S (by omega)]; exact h2)
      match k, hk with
      | 0, _ =>
        show _ = some (Value.int (I0 xs (57 + i) 0))
        rw [I0_C hi]; exact h7
      | 1, _ =>
        show _ = some (rv_ (qX b s) (Value.ref (R0 (57 + i) 1)))
        rw [R0_C hi, e, hr]; exact h8
    have : a = 66 ∨ a = 67 ∨ a = 68 ∨ a = 69 := by omega
    rcases this with rfl | rfl | rfl | rfl
    · obtain ⟨t, cell, h1, h2, h3, h4, h5, h6, h7⟩ := in_66 hN
      exact Co_ar (n := 9) rfl (by decide) (by decide) (by decide) h1 h2 h6 h7
    · obtain ⟨t, cell, h1, h2, h3, h4, h5, h6, h7⟩ := in_67 hN
      exact Co_ar (n := 9) rfl (by decide) (by decide) (by decide) h1 h2 h6 h7
    · obtain ⟨t, cell, h1, h2, h3, h4, h5, h6, h7⟩ := in_68 hN
      exact Co_ar (n := 100) rfl (by decide) (by decide) (by decide) h1 h2 h6 h7
    · obtain ⟨t, cell, h1, h2, h3, h4, h5, h6, h7⟩ := in_69 hN
      exact Co_ar (n := 100) rfl (by decide) (by decide) (by decide) h1 h2 h6 h7
theorem con_ref (hN : ∀ c ∈ flN, c.before #[Value.ref b] s = true) {a : Nat} (h0 : a ≠ 0) (h2 : a ≠ 2) (ha : a < 70) : ∃ p, (qk_t a).eval #[Value.ref b] s none [] s = some (.ref p) := by
  by_cases c1 : a = 1
  · subst c1; exact ⟨b, rfl⟩
  by_cases c57 : a < 57
  · by_cases odd : a % 2 = 1
    · obtain ⟨i, hi, rfl⟩ : ∃ i, i < 27 ∧ a = 3 + 2 * i := ⟨(a - 3) / 2, by omega, by omega⟩
      obtain ⟨p, pv, cell, av, h1, -⟩ := str_f hN hi
      exact ⟨p, by rw [qk_S hi]; exact h1⟩
    · obtain ⟨i, hi, rfl⟩ : ∃ i, i < 27 ∧ a = 4 + 2 * i := ⟨(a - 4) / 2, by omega, by omega⟩
      obtain ⟨p, pv, cell, av, h1, h2, -⟩ := str_f hN hi
      exact ⟨pv, by rw [qk_V hi]; exact h2⟩
  by_cases c66 : a < 66
  · obtain ⟨i, hi, rfl⟩ : ∃ i, i < 9 ∧ a = 57 + i := ⟨a - 57, by omega, by omega⟩
    obtain ⟨p, pf, cell, h1, -⟩ := cmd_f hN hi
    exact ⟨p, by rw [qk_C hi]; exact h1⟩
  have : a = 66 ∨ a = 67 ∨ a = 68 ∨ a = 69 := by omega
  rcases this with rfl | rfl | rfl | rfl
  · obtain ⟨t, cell, h1, -⟩ := in_66 hN
    exact ⟨t, h1⟩
  · obtain ⟨t, cell, h1, -⟩ := in_67 hN
    exact ⟨t, h1⟩
  · obtain ⟨t, cell, h1, -⟩ := in_68 hN
    exact ⟨t, h1⟩
  · obtain ⟨t, cell, h1, -⟩ := in_69 hN
    exact ⟨t, h1⟩
theorem sb_5 (hts : ∀ w ∈ lw_tbl, w.before #[Value.ref b] s = true) (hN : ∀ c ∈ flN, c.before #[Value.ref b] s = true) (i : Nat) (q : String × Nat × String × Nat) (hq : qq_strs[i]? = some q) : ∃ a : Nat, q4 b s q.2.2.2 = some a ∧ vk_R q.1 q.2.1 q.2.2.1 a s := by
  have hk : (qq_strs.zipIdx.all (fun x => decide (x.2 < 27) && decide (x.1.2.2.2 = 3 + 2 * x.2) && decide (qq_strs.getD x.2 ("", 0, "", 0) = x.1) && decide (Cond.stringRef x.1.1 x.1.2.1 x.1.2.2.1 ∈ lw_tbl))) = true := by decide +kernel
  have hm : (q, i) ∈ qq_strs.zipIdx := by
    rw [List.mem_zipIdx_iff_getElem?]; exact hq
  have h := List.all_eq_true.mp hk _ hm
  simp only [Bool.and_eq_true, decide_eq_true_eq] at h
  obtain ⟨⟨⟨h1, h2⟩, h3⟩, h4⟩ := h
  obtain ⟨p, pv, cell, av, g1, -⟩ := str_f hN h1
  have e : tS i = .string q.1 q.2.1 := by unfold tS; rw [h3]
  refine ⟨p, ?_, vk_R.of (hts _ h4) (by rw [← e]; exact g1)⟩
  rw [h2]
  exact q4_of (by omega) (by rw [qk_S h1]; exact g1)
theorem sb_6 (hN : ∀ c ∈ flN, c.before #[Value.ref b] s = true) (hX : va_X b L xs s s.heap) (a : Nat) (ha : a < qq_K0) (hk : qq_at (qq_ck a) = true) : ∃ (p : Nat) (cell : Cell), q4 b s a = some p ∧ s.heap[p]? = some cell ∧ s.isArrayOf cell (qq_et (qq_ck a)) ∧ cell.vm ≠ .unknown ∧ cell.vm.isStatics = false := by
  have ha : a < 70 := ha
  by_cases c0 : a = 0
  · subst c0; cases hk
  by_cases c1 : a = 1
  · subst c1
    obtain ⟨scr, x1, x2, x3, x4, x5⟩ := hX
    refine ⟨b, scr, q4_of (by decide) rfl, x1, x2, x3, ?_⟩
    cases hvm : scr.vm with
    | statics k => exact absurd hvm (x2.1 k)
    | _ => rfl
  by_cases c2 : a = 2
  · subst c2; cases hk
  by_cases c57 : a < 57
  · by_cases odd : a % 2 = 1
    · obtain ⟨i, hi, rfl⟩ : ∃ i, i < 27 ∧ a = 3 + 2 * i := ⟨(a - 3) / 2, by omega, by omega⟩
      rw [ck_S i hi] at hk; cases hk
    · obtain ⟨i, hi, rfl⟩ : ∃ i, i < 27 ∧ a = 4 + 2 * i := ⟨(a - 4) / 2, by omega, by omega⟩
      obtain ⟨p, pv, cell, av, h1, h2, h3, h4, h5, h6, h7, h8, h9, h10, h11, h12, -⟩ := str_f hN hi
      exact ⟨pv, av, q4_of (by omega) (by rw [qk_V hi]; exact h2), h9, by rw [ck_V i hi]; exact h10, h11, h12⟩
  by_cases c66 : a < 66
  · obtain ⟨i, hi, rfl⟩ : ∃ i, i < 9 ∧ a = 57 + i := ⟨a - 57, by omega, by omega⟩
    rw [ck_C i hi] at hk; cases hk
  have : a = 66 ∨ a = 67 ∨ a = 68 ∨ a = 69 := by omega
  rcases this with rfl | rfl | rfl | rfl
  · obtain ⟨t, cell, h1, h2, h3, h4, h5, -⟩ := in_66 hN
    exact ⟨t, cell, q4_of (by decide) h1, h2, h3, h4, h5⟩
  · obtain ⟨t, cell, h1, h2, h3, h4, h5, -⟩ := in_67 hN
    exact ⟨t, cell, q4_of (by decide) h1, h2, h3, h4, h5⟩
  · obtain ⟨t, cell, h1, h2, h3, h4, h5, -⟩ := in_68 hN
    exact ⟨t, cell, q4_of (by decide) h1, h2, h3, h4, h5⟩
  · obtain ⟨t, cell, h1, h2, h3, h4, h5, -⟩ := in_69 hN
    exact ⟨t, cell, q4_of (by decide) h1, h2, h3, h4, h5⟩
theorem Z_ref {C n d : String} {a : Nat} (hts : ∀ w ∈ lw_tbl, w.before #[Value.ref b] s = true) (hl : Cond.laysStatic C n d ∈ lw_tbl) (hi : Cond.initialized C ∈ lw_tbl) (ha : a < 70) (h0 : a ≠ 0) (ht : qk_t a = .static C n d) {p : Nat} (h : (qk_t a).eval #[Value.ref b] s none [] s = some (.ref p)) : va_Z C n d (rv_ (qX b s) (.ref a)) (fun z : Nat => s.heap.size ≤ z) s s.heap := by
  rw [rvc ha h0 h]
  rw [ht] at h
  exact va_Zof (hts _ hl) (hts _ hi) h (hA s)
theorem sb_7 (hts : ∀ w ∈ lw_tbl, w.before #[Value.ref b] s = true) (hN : ∀ c ∈ flN, c.before #[Value.ref b] s = true) (i : Nat) (q : String × String × String × Value) (hq : qq_stat[i]? = some q) : va_Z q.1 q.2.1 q.2.2.1 (rv_ (qX b s) q.2.2.2) (fun z : Nat => s.heap.size ≤ z) s s.heap := by
  have hm := List.mem_of_getElem? hq
  unfold qq_stat at hm
  simp only [List.mem_cons, List.not_mem_nil, or_false] at hm
  have hr : ∀ a, a ≠ 0 → a ≠ 2 → a < 70 → ∃ p, (qk_t a).eval #[Value.ref b] s none [] s = some (.ref p) := fun a h0 h2 ha => con_ref hN h0 h2 ha
  rcases hm with rfl | rfl | rfl | rfl | rfl | rfl | rfl
  · exact va_Zof (v := .int 1) (hts _ (by decide +kernel)) (hts _ (by decide +kernel)) (va_eqi (hN _ (by decide +kernel))) (hA s)
  · have h := hN (.isRef (.static "jdk/internal/util/Preconditions" "SIOOBE_FORMATTER" "Ljava/util/function/BiFunction;")) (by decide +kernel)
    cases hv : (Term.static "jdk/internal/util/Preconditions" "SIOOBE_FORMATTER" "Ljava/util/function/BiFunction;").eval #[Value.ref b] s none [] s with
    | none => simp [Cond.before, Cond.holds, Cond.value, hv] at h
    | some w =>
      have e : rv_ (qX b s) (.ref 2) = w := by
        show va_rf (ro_ (qX b s) 2) = w
        rw [ro_con (by decide)]
        show va_rf (q4 b s 2) = w
        unfold q4
        rw [if_neg (by decide)]
        show va_rf (match (Term.static "jdk/internal/util/Preconditions" "SIOOBE_FORMATTER" "Ljava/util/function/BiFunction;").eval #[Value.ref b] s none [] s with | some (.ref p) => some p | _ => none) = w
        rw [hv]
        simp only [Cond.before, Cond.holds, Cond.value, hv] at h
        cases w with
        | null => rfl
        | ref t => rfl
        | _ => simp at h
      show va_Z _ _ _ (rv_ (qX b s) (.ref 2)) _ _ _
      rw [e]
      exact va_Zof (hts _ (by decide +kernel)) (hts _ (by decide +kernel)) hv (hA s)
  · obtain ⟨p, h⟩ := hr 57 (by decide) (by decide) (by decide)
    exact Z_ref hts (by decide +kernel) (by decide +kernel) (by decide) (by decide) rfl h
  · obtain ⟨p, h⟩ := hr 66 (by decide) (by decide) (by decide)
    exact Z_ref hts (by decide +kernel) (by decide +kernel) (by decide) (by decide) rfl h
  · obtain ⟨p, h⟩ := hr 67 (by decide) (by decide) (by decide)
    exact Z_ref hts (by decide +kernel) (by decide +kernel) (by decide) (by decide) rfl h
  · obtain ⟨p, h⟩ := hr 68 (by decide) (by decide) (by decide)
    exact Z_ref hts (by decide +kernel) (by decide +kernel) (by decide) (by decide) rfl h
  · obtain ⟨p, h⟩ := hr 69 (by decide) (by decide) (by decide)
    exact Z_ref hts (by decide +kernel) (by decide +kernel) (by decide) (by decide) rfl h
theorem ex_nc : (qq_ex.zipIdx.all (fun x => qq_ex.zipIdx.all (fun y => decide (x.2 = y.2) || decide (Cond.not (.castable x.1.1 y.1.1) ∈ flN)))) = true := by decide +kernel
theorem sb_8 (hN : ∀ c ∈ flN, c.before #[Value.ref b] s = true) (i j : Nat) (q r : String × Nat × Nat × List String) (hq : qq_ex[i]? = some q) (hr : qq_ex[j]? = some r) (hij : i ≠ j) : va_Nc q.1 r.1 s := by
  have hm : (q, i) ∈ qq_ex.zipIdx := by rw [List.mem_zipIdx_iff_getElem?]; exact hq
  have hm2 : (r, j) ∈ qq_ex.zipIdx := by rw [List.mem_zipIdx_iff_getElem?]; exact hr
  have h := List.all_eq_true.mp (List.all_eq_true.mp ex_nc _ hm) _ hm2
  simp only [Bool.or_eq_true, decide_eq_true_eq] at h
  rcases h with h | h
  · exact absurd h hij
  · exact va_Nc.of (hN _ h)
theorem Fx_0 (hts : ∀ w ∈ lw_tbl, w.before #[Value.ref b] s = true) (hN : ∀ c ∈ flN, c.before #[Value.ref b] s = true) (hX : va_X b L xs s s.heap) : qq_Fx (qX b s) s := by
  obtain ⟨-, -, -, -, -, -, -, -, -, -, -, cC⟩ := cmd_f hN (i := 0) (by decide)
  exact ⟨sb_1 hts, sb_2 hts, sb_3 hts cC, sb_4 hts, sb_5 hts hN, sb_6 hN hX, sb_7 hts hN, sb_8 hN,
    vx_Zqof (hts _ (by decide +kernel)) (hts _ (by decide +kernel)) (hN _ (by decide +kernel)) (hA s),
    vx_Zqof (hts _ (by decide +kernel)) (hts _ (by decide +kernel)) (hN _ (by decide +kernel)) (hA s),
    rfl, fun a h0 h2 ha => by
      obtain ⟨p, h⟩ := con_ref hN h0 h2 ha
      exact ⟨p, q4_of h0 h⟩⟩
/-- what the law's run asks of its start -/
theorem L0_0 (hL : L ≤ 260) : L0 (I0 xs) (T0 L) := by
  refine ⟨rfl, KC_0, ⟨rfl, hL⟩, by show (0 : Nat) ≤ 900; omega, fun a ha k hl => ?_⟩
  show R0 a k < 70
  unfold R0
  by_cases c1 : a < 57
  · rw [if_pos c1]; omega
  rw [if_neg c1]
  by_cases c2 : a < 66
  · rw [if_pos c2]; omega
  rw [if_neg c2]
  have : a = 66 ∨ a = 67 ∨ a = 68 ∨ a = 69 := by omega
  rcases this with rfl | rfl | rfl | rfl
  · have hk : k < 9 := by
      rcases hl with ⟨h, -⟩ | ⟨-, h⟩
      · exact absurd (show (112 : Nat) < 100 from h) (by omega)
      · exact h
    omega
  · exfalso
    rcases hl with ⟨h, -⟩ | ⟨⟨h, -⟩, -⟩
    · exact absurd (show (100 : Nat) < 100 from h) (by omega)
    · exact absurd (show (110 : Nat) ≤ 100 from h) (by omega)
  · exfalso
    rcases hl with ⟨h, -⟩ | ⟨⟨h, -⟩, -⟩
    · exact absurd (show (102 : Nat) < 100 from h) (by omega)
    · exact absurd (show (110 : Nat) ≤ 102 from h) (by omega)
  · exfalso
    rcases hl with ⟨h, -⟩ | ⟨⟨h, -⟩, -⟩
    · exact absurd (show (102 : Nat) < 100 from h) (by omega)
    · exact absurd (show (110 : Nat) ≤ 102 from h) (by omega)
end SD
