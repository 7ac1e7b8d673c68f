/-! THE LAW: its own texts, acts -/
theorem R_B_ex {I I' : qq_I} {τ τ' : qq_R} {s Z : Nat} {l : List Nat} (h : R_B I τ s Z l) (hz : tZ τ ≤ tZ τ') (h1 : I' s = I s ∧ tK τ' s = tK τ s ∧ tR τ' s 0 = tR τ s 0) (h2 : I' (tR τ s 0) = I (tR τ s 0) ∧ tK τ' (tR τ s 0) = tK τ (tR τ s 0)) : R_B I' τ' s Z l := by
  obtain ⟨s70, sZ, hZ, g1, g2, g3, v, n, g4, g5, g6, g7, g8, g9, hv, gi, gl⟩ := h
  obtain ⟨a1, a2, a3⟩ := h1
  rw [g4] at h2
  obtain ⟨b1, b2⟩ := h2
  exact ⟨s70, sZ, Nat.le_trans hZ hz, a2.trans g1, by rw [a1]; exact g2, by rw [a1]; exact g3, v, n, a3.trans g4, b2.trans g5, g6, g7, g8, g9, Nat.lt_of_lt_of_le hv hz, fun i hi => by rw [b1]; exact gi i hi, fun i hi => by rw [b1]; exact gl i hi⟩
section AT
variable {d B n s : Nat} {C : sC} {I I' : qq_I} {τ τ' : qq_R} {E : List (Nat × (Nat → Int32))} {P : qq_O → qq_I → qq_R → Prop} {l m : List Nat}
/-- the class's cells are kept where all that it reaches is kept -/
theorem R_C_ey {A : Nat → Prop} (h : LV E B n C I τ) (hz : tZ τ ≤ tZ τ') (hS : ∀ a, a < tZ τ → ¬ A a → I' a = I a ∧ tK τ' a = tK τ a ∧ ∀ k, tR τ' a k = tR τ a k) (hA : ∀ a, a < tZ τ → A a → 308 ≤ a ∧ a ≠ tR τ 291 0 ∧ a ≠ tR τ 306 0) : R_C I' τ' 70 308 B C := by
  obtain ⟨g1, g2, g3, g4, g5, x1, x2, x3, x4, x5, x6, x7, x8, x9, x10, x11, x12, x13, x14, x15, x16, x17⟩ := h.1
  obtain ⟨v1, v2⟩ := R_B_v x14
  obtain ⟨v3, v4⟩ := R_B_v x11
  have hz3 := LV_z h
  have lo : ∀ a, a < 308 → I' a = I a ∧ tK τ' a = tK τ a ∧ ∀ k, tR τ' a k = tR τ a k := fun a ha => hS a (by omega) (fun z => by have := hA a (by omega) z; omega)
  have ec := (lo 70 (by omega)).1
  have t1 := hS (tR τ 291 0) v4 (fun z => (hA _ v4 z).2.1 rfl)
  have t2 := hS (tR τ 306 0) v2 (fun z => (hA _ v2 z).2.2 rfl)
  have e1 : tR τ' 291 0 = tR τ 291 0 := (lo 291 (by omega)).2.2 0
  have e2 : tR τ' 306 0 = tR τ 306 0 := (lo 306 (by omega)).2.2 0
  refine ⟨L_C_T g1 (fun a h1 h2 => ⟨(lo a (by omega)).2.1, (lo a (by omega)).2.2⟩), R_R_same g2 (fun a _ _ => (lo a (by omega)).1), g3, R_H_same g4 (fun a _ _ => (lo a (by omega)).1), g5, x1, by rw [ec]; exact x2, fun T hT2 => ⟨R_R_same (x3 T hT2).1 (fun a _ _ => (lo a (by omega)).1), (x3 T hT2).2⟩, by rw [ec]; exact x4, by rw [ec]; exact x5, by rw [ec]; exact x6, x7, x8, x9, x10,
    R_B_ex x11 hz ⟨(lo 291 (by omega)).1, (lo 291 (by omega)).2.1, e1⟩ ⟨t1.1, t1.2.1⟩, x12, x13, R_B_ex x14 hz ⟨(lo 306 (by omega)).1, (lo 306 (by omega)).2.1, e2⟩ ⟨t2.1, t2.2.1⟩, x15, x16, ?_⟩
  show tR τ' 291 0 ≠ tR τ' 306 0
  rw [e1, e2]; exact x17
/-- a new cell of the law's own -/
theorem LV_nk {kd : Nat × Nat} {u : Nat} (h : LV E B n C I τ) (hu : u ≤ 400) : LV E B (n + 1) C (nwI τ I) (nT τ kd u) := by
  obtain ⟨h1, h2, h3, h4, h5, h6, h7⟩ := h
  have hz : 308 ≤ tZ τ := h4.2.1
  have hE : ∀ a ∈ eA E, a < tZ τ := fun a ha => (h4.1 a ha).2
  refine ⟨R_C_nw h1, KC_same h2 (fun a ha => ⟨nI_o (by omega), nT_Ko (by omega), fun k => nT_Ro (by omega)⟩), by rw [nT_Ko (by omega)]; exact h3, ⟨fun a ha => ⟨(h4.1 a ha).1, Nat.lt_succ_of_lt (hE a ha)⟩, ?_, fun a ha hn k hl => ?_⟩, fun p hp => ?_, ⟨by rw [nT_Z]; omega, ?_⟩, h7⟩
  · show 308 ≤ tZ τ + 1
    omega
  · by_cases e : a = tZ τ
    · have hr : rd_R (nwI τ I, nT τ kd u) a k = 0 := by
        rw [e]
        exact if_pos ⟨Nat.le_refl _, Nat.lt_succ_self _⟩
      rw [hr]
      exact ⟨Nat.lt_of_lt_of_le (by omega : 0 < 308) (show 308 ≤ tZ τ + 1 by omega), fun hm => by have := (h4.1 0 hm).1; omega⟩
    · have ha : a < tZ τ + 1 := ha
      have hk : kd_S (nwI τ I, nT τ kd u) a = kd_S (I, τ) a := nT_Ko e
      have hr : rd_R (nwI τ I, nT τ kd u) a k = rd_R (I, τ) a k := nT_Ro e
      unfold lgR at hl
      rw [hk] at hl
      obtain ⟨q1, q2⟩ := h4.2.2 a (by show a < tZ τ; omega) hn k hl
      rw [hr]
      exact ⟨Nat.lt_succ_of_lt q1, q2⟩
  · have hlt := hE p.1 (List.mem_map.mpr ⟨p, hp, rfl⟩)
    rw [nT_Ko (by omega)]
    refine ⟨(h5 p hp).1, fun j hj => ?_⟩
    rw [nI_o (by omega)]
    exact (h5 p hp).2 j hj
  · rw [nT_U]
    exact u_next (by omega) h6.2
theorem E_kind (h : LV E B n C I τ) {a : Nat} (hk : (tK τ a).1 ≠ 100) : a ∉ eA E := fun hm => by
  obtain ⟨p, hp, rfl⟩ := List.mem_map.mp hm
  exact hk (congrArg Prod.fst (h.2.2.2.2.1 p hp).1)
/-- a builder of the law's own at s holds l -/
def SB (E : List (Nat × (Nat → Int32))) (B n : Nat) (C : sC) (s : Nat) (l : List Nat) (I : qq_I) (τ : qq_R) : Prop := LV E B n C I τ ∧ R_B I τ s (s + 2) l ∧ 308 ≤ s ∧ tR τ 291 0 ≠ s ∧ tR τ 306 0 ≠ s ∧ tR τ 291 0 ≠ tR τ s 0 ∧ tR τ 306 0 ≠ tR τ s 0
/-- what was there before the builder knows nothing of it -/
def cS (E : List Nat) (s : Nat) (σ : qq_S) : Prop := (∀ a ∈ E, 308 ≤ a ∧ a < s) ∧ 308 ≤ s ∧ ∀ a, a < s → a ∉ E → ∀ k, lgR σ a k → rd_R σ a k < s ∧ rd_R σ a k ∉ E
def S0 (E : List (Nat × (Nat → Int32))) (B n : Nat) (C : sC) (s : Nat) (l : List Nat) (I : qq_I) (τ : qq_R) : Prop := SB E B n C s l I τ ∧ cS (eA E) s (I, τ)
theorem SB_v (h : SB E B n C s l I τ) : s + 1 ≤ tR τ s 0 ∧ tR τ s 0 < tZ τ ∧ s + 2 ≤ tZ τ ∧ tK τ s = (2, 0) ∧ tR τ 291 0 < tZ τ ∧ tR τ 306 0 < tZ τ := by
  obtain ⟨h1, ⟨s70, sZ, hZ, g1, g2, g3, v, n, g4, g5, g6, g7, g8, g9, hv, gi, gl⟩, h3, -⟩ := h
  have x11 := h1.1.2.2.2.2.2.2.2.2.2.2.2.2.2.2.2.1
  have x14 := h1.1.2.2.2.2.2.2.2.2.2.2.2.2.2.2.2.2.2.2.1
  exact ⟨by omega, by omega, hZ, g1, (R_B_v x11).2, (R_B_v x14).2⟩
theorem SB_k (h : SB E B n C s l I τ) : (kd_S (I, τ) s).1 = 2 := congrArg Prod.fst (SB_v h).2.2.2.1
/-- something is appended -/
theorem SB_app {D M : Nat} {av : List Value} {o : qq_O} {l' : List Nat} (h : SB E B n C s l I τ) (hr : CC D M av (I, τ) = some (o, (I', τ'))) (hv : ∀ v ∈ av, ∀ a, v = .ref a → a = s ∨ a < 70) (hP : PB I τ s (s + 2) 1 I' τ' l') : SB E B (n + 1) C s l' I' τ' ∧ (∀ a, a < s → tK τ' a = tK τ a ∧ ∀ k, tR τ' a k = tR τ a k) := by
  obtain ⟨v1, v2, v3, v4, v5, v6⟩ := SB_v h
  obtain ⟨h1, h2, h3, h4, h5, h6, h7⟩ := h
  obtain ⟨p1, p2, p3, p4, p5⟩ := hP
  have hz := LV_z h1
  have hsE : s ∉ eA E := E_kind h1 (by rw [v4]; decide)
  have hA : ∀ a, a < tZ τ → (a = s ∨ a = tR τ s 0) → 308 ≤ a ∧ a ≠ tR τ 291 0 ∧ a ≠ tR τ 306 0 := fun a _ z => by
    rcases z with rfl | rfl
    · exact ⟨h3, fun e => h4 e.symm, fun e => h5 e.symm⟩
    · exact ⟨by omega, fun e => h6 e.symm, fun e => h7 e.symm⟩
  have lo : ∀ a, a < s → ¬ (a = s ∨ a = tR τ s 0) := fun a ha => by omega
  have hst : s < tZ τ := by omega
  have h70 : 70 ≤ tZ τ := by omega
  have hno : ∀ a, a < 70 → a ∉ eA E := fun a ha hm => by have := (h1.2.2.2.1.1 a hm).1; omega
  have b := h1.2.2.2.2.2.1
  have hR := R_C_ex h1 p2 hA
  have hK : KC I' τ' := KC_gf h1.2.1 p2 (by omega) (fun a ha => lo a (by omega))
  have hz' : tZ τ' ≤ 308 + 20 * (n + 1) := by omega
  have hu' : tU τ' ≤ 10000 + 400 * (n + 1) := u_next (by omega) b.2
  have hL := LV_call (n' := n + 1) h1 hr (fun v hm a e => by
    rcases hv v hm a e with r | r
    · rw [r]; exact ⟨hst, hsE⟩
    · exact ⟨Nat.lt_of_lt_of_le r h70, hno a r⟩) hR hK hz' hu' (LV_i h1)
  have e1 : tR τ' 291 0 = tR τ 291 0 := Gf_R p2 (by omega) (lo 291 (by omega))
  have e2 : tR τ' 306 0 = tR τ 306 0 := Gf_R p2 (by omega) (lo 306 (by omega))
  refine ⟨⟨hL, p1, h3, by rw [e1]; exact h4, by rw [e2]; exact h5, ?_, ?_⟩, fun a ha => ⟨Gf_K p2 (by omega), fun k => Gf_R p2 (by omega) (lo a ha)⟩⟩
  · rw [e1]
    rcases p5 with r | r
    · rw [r]; exact h6
    · omega
  · rw [e2]
    rcases p5 with r | r
    · rw [r]; exact h7
    · omega
theorem S0_app {D M : Nat} {av : List Value} {o : qq_O} {l' : List Nat} (h : S0 E B n C s l I τ) (hr : CC D M av (I, τ) = some (o, (I', τ'))) (hv : ∀ v ∈ av, ∀ a, v = .ref a → a = s ∨ a < 70) (hP : PB I τ s (s + 2) 1 I' τ' l') : S0 E B (n + 1) C s l' I' τ' := by
  obtain ⟨h1, h2⟩ := SB_app h.1 hr hv hP
  refine ⟨h1, h.2.1, h.2.2.1, fun a ha hn k hl => ?_⟩
  obtain ⟨q1, q2⟩ := h2 a ha
  have hk : kd_S (I', τ') a = kd_S (I, τ) a := q1
  have hr : rd_R (I', τ') a k = rd_R (I, τ) a k := q2 k
  unfold lgR at hl
  rw [hk] at hl
  rw [hr]
  exact h.2.2.2 a ha hn k hl
theorem rv2 {s i : Nat} (hi : i < 70) : ∀ v ∈ [Value.ref s, .ref i], ∀ a, v = .ref a → a = s ∨ a < 70 := fun v hm a e => by
  simp only [List.mem_cons, List.not_mem_nil, or_false] at hm
  rcases hm with rfl | rfl
  · cases e; exact Or.inl rfl
  · cases e; exact Or.inr hi
theorem rvi {s : Nat} {x : Int32} : ∀ v ∈ [Value.ref s, .int x], ∀ a, v = .ref a → a = s ∨ a < 70 := fun v hm a e => by
  simp only [List.mem_cons, List.not_mem_nil, or_false] at hm
  rcases hm with rfl | rfl
  · cases e; exact Or.inl rfl
  · cases e
theorem SB_str {i : Nat} (h : SB E B n C s l I τ) (hm : (i, m) ∈ ktab) (hl : l.length + m.length ≤ 61) : LC (d + 43) 12 [.ref s, .ref i] I τ (some (.ref s)) (SB E B (n + 1) C s (l ++ m)) := by
  have hS := h.1.2.1.2.1 _ hm
  obtain ⟨I', τ', r1, r2⟩ := c_appendString (d := d + 37) h.2.1 hS hl
  exact ⟨I', τ', r1, (SB_app h r1 (rv2 (Nat.lt_of_succ_lt hS.2.1)) r2).1⟩
theorem S0_str {i : Nat} (h : S0 E B n C s l I τ) (hm : (i, m) ∈ ktab) (hl : l.length + m.length ≤ 61) : LC (d + 43) 12 [.ref s, .ref i] I τ (some (.ref s)) (S0 E B (n + 1) C s (l ++ m)) := by
  have hS := h.1.1.2.1.2.1 _ hm
  obtain ⟨I', τ', r1, r2⟩ := c_appendString (d := d + 37) h.1.2.1 hS hl
  exact ⟨I', τ', r1, S0_app h r1 (rv2 (Nat.lt_of_succ_lt hS.2.1)) r2⟩
theorem SB_int {k : Nat} (h : SB E B n C s l I τ) (hk : k < 1000000) (hl : l.length + (dg k).length ≤ 61) : LC (d + 43) 19 [.ref s, .int (iN k)] I τ (some (.ref s)) (SB E B (n + 1) C s (l ++ dg k)) := by
  obtain ⟨I', τ', r1, r2⟩ := c_appendInt (d := d + 39) h.1.2.1.1 h.2.1 hk hl
  exact ⟨I', τ', r1, (SB_app h r1 rvi r2).1⟩
theorem S0_int {k : Nat} (h : S0 E B n C s l I τ) (hk : k < 1000000) (hl : l.length + (dg k).length ≤ 61) : LC (d + 43) 19 [.ref s, .int (iN k)] I τ (some (.ref s)) (S0 E B (n + 1) C s (l ++ dg k)) := by
  obtain ⟨I', τ', r1, r2⟩ := c_appendInt (d := d + 39) h.1.1.2.1.1 h.1.2.1 hk hl
  exact ⟨I', τ', r1, S0_app h r1 rvi r2⟩
/-- a new builder -/
theorem S0_new (h : LV E B n C I τ) : ∃ s, s = tZ τ ∧ (kd_S (nwI τ I, nT τ (2, 0) (qq_nf 2)) s).1 < 200 ∧ LC (d + 43) 0 [.ref s] (nwI τ I) (nT τ (2, 0) (qq_nf 2)) none (S0 E B (n + 2) C s []) := by
  have hz := LV_z h
  have q4 : qq_nf 2 = 4 := rfl
  have h1 := LV_nk (kd := (2, 0)) (u := qq_nf 2) h (by rw [q4]; omega)
  obtain ⟨x1, x2⟩ := (⟨(R_B_v h.1.2.2.2.2.2.2.2.2.2.2.2.2.2.2.2.1).2, (R_B_v h.1.2.2.2.2.2.2.2.2.2.2.2.2.2.2.2.2.2.2.1).2⟩ : tR τ 291 0 < tZ τ ∧ tR τ 306 0 < tZ τ)
  have hc := h.2.2.2.1
  obtain ⟨z, hzz⟩ : ∃ z, tZ τ = z := ⟨_, rfl⟩
  rw [hzz] at hz x1 x2
  have kz : tK (nT τ (2, 0) (qq_nf 2)) z = (2, 0) := by rw [← hzz]; exact nT_K
  have iz : nwI τ I z 3 = iN 0 := by rw [← hzz]; exact nI_at
  have tz : tZ (nT τ (2, 0) (qq_nf 2)) = z + 1 := by rw [nT_Z, hzz]
  have o1 : ∀ a, a < z → tK (nT τ (2, 0) (qq_nf 2)) a = tK τ a ∧ ∀ k, tR (nT τ (2, 0) (qq_nf 2)) a k = tR τ a k := fun a ha => ⟨nT_Ko (by omega), fun k => nT_Ro (by omega)⟩
  refine ⟨z, hzz.symm, by rw [show kd_S (nwI τ I, nT τ (2, 0) (qq_nf 2)) z = (2, 0) from kz]; decide, ?_⟩
  generalize nwI τ I = I1 at *
  generalize nT τ (2, 0) (qq_nf 2) = τ1 at *
  obtain ⟨I', τ', r1, r2, r3⟩ := k_0 (d := d + 42) tz (by omega) kz iz
  obtain ⟨n1, n2, n3, n4⟩ := r2
  have hsE : z ∉ eA E := fun hm => by
    have := (hc.1 z hm).2
    have : z < tZ τ := this
    omega
  have e1 : tR τ1 291 0 = tR τ 291 0 := (o1 291 (by omega)).2 0
  have e2 : tR τ1 306 0 = tR τ 306 0 := (o1 306 (by omega)).2 0
  have hR : R_C I' τ' 70 308 B C := R_C_ey (A := fun a => a = z) h1 (by omega) (fun a ha hn => ⟨(n3 a ha hn).1, n4 a ha, (n3 a ha hn).2⟩) (fun a _ e => by rw [e, e1, e2]; exact ⟨hz, by omega, by omega⟩)
  have hK : KC I' τ' := KC_same h1.2.1 (fun a ha => ⟨(n3 a (by omega) (by omega)).1, n4 a (by omega), (n3 a (by omega) (by omega)).2⟩)
  have b := h1.2.2.2.2.2.1
  have hz' : tZ τ' ≤ 308 + 20 * (n + 2) := by omega
  have hu' : tU τ' ≤ 10000 + 400 * (n + 1 + 1) := u_next (by omega) b.2
  have hzt : z < tZ τ1 := by omega
  have hL := LV_call (n' := n + 2) h1 r1 (fun v hm a e => by
    rw [List.mem_singleton] at hm
    rw [hm] at e
    cases e
    exact ⟨hzt, hsE⟩) hR hK hz' hu' (LV_i h1)
  have hB := BD_B (Z := z + 2) r3 (by omega) (Nat.le_refl _) (by omega)
  have f1 : tR τ' 291 0 = tR τ 291 0 := ((n3 291 (by omega) (by omega)).2 0).trans e1
  have f2 : tR τ' 306 0 = tR τ 306 0 := ((n3 306 (by omega) (by omega)).2 0).trans e2
  have f3 : tR τ' z 0 = z + 1 := r3.2.2.2.1
  refine ⟨I', τ', r1, ⟨hL, hB, hz, by rw [f1]; omega, by rw [f2]; omega, by rw [f1, f3]; omega, by rw [f2, f3]; omega⟩, fun a ha => ⟨(hc.1 a ha).1, ?_⟩, hz, fun a ha hn k hl => ?_⟩
  · have := (hc.1 a ha).2
    have : a < tZ τ := this
    omega
  · have hk : kd_S (I', τ') a = kd_S (I, τ) a := (n4 a (by omega)).trans (o1 a ha).1
    have hr : rd_R (I', τ') a k = rd_R (I, τ) a k := ((n3 a (by omega) (by omega)).2 k).trans ((o1 a ha).2 k)
    unfold lgR at hl
    rw [hk] at hl
    rw [hr]
    have := hc.2.2 a (by show a < tZ τ; omega) hn k hl
    have q : sz_S (I, τ) = z := hzz
    rw [q] at this
    exact this
/-- the law asks for a writ while its builder stands -/
theorem S0_writ (h : S0 E B n C s l I τ) {a : Nat} (ha : a < 100) : ∃ w, w < 1000000 ∧ LC (d + 43) 240 [.ref 70, .int (iN a)] I τ (some (.int (iN w))) (SB E B (n + 3) C s l) := by
  obtain ⟨hS, c1, c2, c3⟩ := h
  obtain ⟨v1, v2, v3, v4, v5, v6⟩ := SB_v hS
  obtain ⟨h1, h2, h3, h4, h5, h6, h7⟩ := hS
  obtain ⟨w, hw, I', τ', r1, hL⟩ := L_writ (d := d + 1) h1 ha
  have hz := LV_z h1
  refine ⟨w, hw, I', τ', r1, hL, ?_⟩
  have hcl : clK (fun a => a < s ∧ a ∉ eA E) (tZ τ) (I, τ) := ⟨Nat.le_refl _, fun a ha => ⟨by omega, fun hm => by have := (c1 a hm).1; omega⟩, fun a ha => by omega, fun a ha k hl => by
    have hk : a < s ∧ a ∉ eA E := ha.elim id (fun q => absurd q.2 (by show ¬ a < tZ τ; omega))
    exact Or.inl (c3 a hk.1 hk.2 k hl)⟩
  obtain ⟨f1, f2, -⟩ := frm_CC r1 hcl (fun v hm a e => Or.inl (by
    simp only [List.mem_cons, List.not_mem_nil, or_false] at hm
    rcases hm with rfl | rfl
    · cases e; exact ⟨by omega, fun hm => by have := (c1 70 hm).1; omega⟩
    · cases e))
  obtain ⟨g1, g2⟩ := f2.2 s (by omega)
  obtain ⟨g2, g3⟩ := g2 (fun z => by have := z.1; omega)
  obtain ⟨g4, g5⟩ := f2.2 (tR τ s 0) v2
  obtain ⟨g5, g6⟩ := g5 (fun z => by have := z.1; omega)
  have g1 : tK τ' s = tK τ s := g1
  have g2 : I' s = I s := g2
  have g3 : tR τ' s 0 = tR τ s 0 := congrFun g3 0
  have hfar : ∀ a, a < s → a ∉ eA E → tK τ' a = (2, 0) → tR τ' a 0 ≠ s ∧ tR τ' a 0 ≠ tR τ s 0 := by
    intro a ha hn hk
    have hq : KS (fun a => a < s ∧ a ∉ eA E) (tZ τ) (I', τ') (tR τ' a 0) := f1.2.2.2 a (Or.inl ⟨ha, hn⟩) 0 (Or.inl (by
      rw [show (kd_S (I', τ') a).1 = 2 from congrArg Prod.fst hk]
      exact ⟨by omega, by decide, rfl⟩))
    rcases hq with q | q
    · have := q.1
      exact ⟨by omega, by omega⟩
    · have := q.1
      exact ⟨by omega, by omega⟩
  have n1 : 291 ∉ eA E := fun hm => by have := (c1 291 hm).1; omega
  have n2 : 306 ∉ eA E := fun hm => by have := (c1 306 hm).1; omega
  have t1 := hfar 291 (by omega) n1 hL.1.2.2.2.2.2.2.2.2.2.2.2.2.2.2.2.1.2.2.2.1
  have t2 := hfar 306 (by omega) n2 hL.1.2.2.2.2.2.2.2.2.2.2.2.2.2.2.2.2.2.2.1.2.2.2.1
  exact ⟨R_B_ex h2 f2.1 ⟨g2, g1, g3⟩ ⟨g5, g4⟩, h3, t1.1, t2.1, by rw [g3]; exact t1.2, by rw [g3]; exact t2.2⟩
/-- the builder's text -/
theorem SB_done (h : SB E B n C s l I τ) (hl : l.length ≤ 60) (hc : ∀ c ∈ l, 32 ≤ c ∧ c ≤ 126) : LC (d + 43) 207 [.ref s] I τ (some (.ref (tZ τ))) (DS E B (n + 1) C (tZ τ) l) := by
  obtain ⟨v1, v2, v3, v4, v5, v6⟩ := SB_v h
  obtain ⟨h1, h2, h3, h4, h5, h6, h7⟩ := h
  have hz := LV_z h1
  obtain ⟨I', τ', r1, r2, r3, r4, r5⟩ := c_toString (d := d + 38) h2 hl (fun c hm => by have := hc c hm; omega)
  have hsE : s ∉ eA E := E_kind h1 (by rw [v4]; decide)
  have b := h1.2.2.2.2.2.1
  have hR : R_C I' τ' 70 308 B C := R_C_ey (A := fun _ => False) h1 (by omega) (fun a ha _ => r4 a ha) (fun a _ z => z.elim)
  have hK : KC I' τ' := KC_same h1.2.1 (fun a ha => r4 a (by omega))
  have hz' : tZ τ' ≤ 308 + 20 * (n + 1) := by omega
  have hu' : tU τ' ≤ 10000 + 400 * (n + 1) := u_next (by omega) b.2
  have hst : s < tZ τ := by omega
  have hL := LV_call (n' := n + 1) h1 r1 (fun v hm a e => by
    rw [List.mem_singleton] at hm
    rw [hm] at e
    cases e
    exact ⟨hst, hsE⟩) hR hK hz' hu' (LV_i h1)
  have hc4 := h1.2.2.2.1
  refine ⟨I', τ', r1, hL, ⟨fun a ha => ?_, ?_, fun a ha hn k hl => ?_⟩, r5⟩
  · have e : sz_S (I', τ') = tZ τ + 2 := r2
    rw [e]
    rcases List.mem_cons.mp ha with r | ha
    · rw [r]; exact ⟨hz, by omega⟩
    rcases List.mem_cons.mp ha with r | ha
    · rw [r]; exact ⟨by omega, by omega⟩
    · have := hc4.1 a ha
      exact ⟨this.1, by have := this.2; have : a < tZ τ := this; omega⟩
  · show 308 ≤ tZ τ'
    omega
  · have ha : a < tZ τ' := ha
    have m1 : a ≠ tZ τ := fun e => hn (by rw [e]; exact List.mem_cons_self)
    have m2 : a ≠ tZ τ + 1 := fun e => hn (by rw [e]; exact List.mem_cons_of_mem _ List.mem_cons_self)
    have m3 : a ∉ eA E := fun hm => hn (List.mem_cons_of_mem _ (List.mem_cons_of_mem _ hm))
    have hlt : a < tZ τ := by omega
    obtain ⟨-, q2, q3⟩ := r4 a hlt
    have hk : kd_S (I', τ') a = kd_S (I, τ) a := q2
    have hr : rd_R (I', τ') a k = rd_R (I, τ) a k := q3 k
    unfold lgR at hl
    rw [hk] at hl
    obtain ⟨w1, w2⟩ := hc4.2.2 a hlt m3 k hl
    have w1 : rd_R (I, τ) a k < tZ τ := w1
    rw [hr]
    refine ⟨by show rd_R (I, τ) a k < tZ τ'; omega, fun hm => ?_⟩
    rcases List.mem_cons.mp hm with r | hm
    · have r : rd_R (I, τ) a k = tZ τ := r
      omega
    rcases List.mem_cons.mp hm with r | hm
    · have r : rd_R (I, τ) a k = tZ τ + 1 := r
      omega
    · exact w2 hm
end AT
