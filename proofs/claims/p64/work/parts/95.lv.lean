/-! THE LAW'S WALK: its rules, and what holds between two of its calls -/
/-- the law's codes of refusals: er 0 is -900001 -/
def er (k : Nat) : Int32 := iN (4294067295 - k)
def wv (l : List Nat) : qR → Int32
  | .inl v => v
  | .inr x => er (l.idxOf x)
def qin (l : List Nat) : qR → Prop
  | .inl _ => True
  | .inr x => x ∈ l
def RP (x : Option (qq_O × qq_S)) (P : qq_O → qq_I → qq_R → Prop) : Prop := ∃ o I τ, x = some (o, (I, τ)) ∧ P o I τ
def LC (d m : Nat) (av : List Value) (I : qq_I) (τ : qq_R) (v : Option Value) (Q : qq_I → qq_R → Prop) : Prop := ∃ I' τ', CC d m av (I, τ) = some (.inl v, (I', τ')) ∧ Q I' τ'
section LR
variable {P : qq_O → qq_I → qq_R → Prop} {x y : Option (qq_O × qq_S)}
theorem RP_ret {o : qq_O} {I : qq_I} {τ : qq_R} (h : P o I τ) : RP (some (o, (I, τ))) P := ⟨o, I, τ, rfl, h⟩
theorem RP_gd {G : Prop} (g : G) (h : RP x P) : RP (gd G x) P := by rw [gd_t g]; exact h
theorem RP_y {c : Prop} [Decidable c] (h : c) (k : RP x P) : RP (if c then x else y) P := by rw [if_pos h]; exact k
theorem RP_n {c : Prop} [Decidable c] (h : ¬ c) (k : RP y P) : RP (if c then x else y) P := by rw [if_neg h]; exact k
theorem RP_if {c : Prop} [Decidable c] (h : c → RP x P) (k : ¬ c → RP y P) : RP (if c then x else y) P := by
  by_cases q : c
  · exact RP_y q (h q)
  · exact RP_n q (k q)
theorem LC_bd {d m : Nat} {av : List Value} {I : qq_I} {τ : qq_R} {v : Option Value} {Q : qq_I → qq_R → Prop} {k : Option Value → qq_S → Option (qq_O × qq_S)} (h : LC d m av I τ v Q) (hk : ∀ I' τ', Q I' τ' → RP (k v (I', τ')) P) : RP (bd (CC d m av (I, τ)) k) P := by
  obtain ⟨I', τ', h1, h2⟩ := h
  rw [h1, bd_ret]
  exact hk I' τ' h2
theorem LC_of {d m : Nat} {av : List Value} {I : qq_I} {τ : qq_R} {v : Option Value} {Q : qq_I → qq_R → Prop} (h : RP (CC d m av (I, τ)) (fun o I' τ' => o = .inl v ∧ Q I' τ')) : LC d m av I τ v Q := by
  obtain ⟨o, I', τ', h1, h2, h3⟩ := h
  subst h2
  exact ⟨I', τ', h1, h3⟩
theorem LC_mono {d m : Nat} {av : List Value} {I : qq_I} {τ : qq_R} {v : Option Value} {Q R : qq_I → qq_R → Prop} (h : LC d m av I τ v Q) (hk : ∀ I' τ', Q I' τ' → R I' τ') : LC d m av I τ v R := by
  obtain ⟨I', τ', h1, h2⟩ := h
  exact ⟨I', τ', h1, hk I' τ' h2⟩
theorem RP_mono {Q : qq_O → qq_I → qq_R → Prop} (h : RP x P) (hk : ∀ o I τ, P o I τ → Q o I τ) : RP x Q := by
  obtain ⟨o, I', τ', h1, h2⟩ := h
  exact ⟨o, I', τ', h1, hk o I' τ' h2⟩
end LR
/-- nothing outside of E points into E -/
def cE (E : List Nat) (σ : qq_S) : Prop := (∀ a ∈ E, 308 ≤ a ∧ a < sz_S σ) ∧ 308 ≤ sz_S σ ∧ ∀ a, a < sz_S σ → a ∉ E → ∀ k, lgR σ a k → rd_R σ a k < sz_S σ ∧ rd_R σ a k ∉ E
theorem cE_clK {E : List Nat} {σ : qq_S} (h : cE E σ) : clK (fun a => a < sz_S σ ∧ a ∉ E) (sz_S σ) σ :=
  ⟨Nat.le_refl _, fun a ha => ⟨by have := h.2.1; omega, fun hm => by have := (h.1 a hm).1; omega⟩, fun a ha => ha.1, fun a ha k hl => by
    have hk : a < sz_S σ ∧ a ∉ E := ha.elim id (fun q => absurd q.2 (by omega))
    exact Or.inl (h.2.2 a hk.1 hk.2 k hl)⟩
theorem cE_after {E : List Nat} {σ σ' : qq_S} (h : cE E σ) (hc : clK (fun a => a < sz_S σ ∧ a ∉ E) (sz_S σ) σ') (hf : frK (fun a => a < sz_S σ ∧ a ∉ E) (sz_S σ) σ σ') : cE E σ' :=
  ⟨fun a ha => ⟨(h.1 a ha).1, Nat.lt_of_lt_of_le (h.1 a ha).2 hf.1⟩, Nat.le_trans h.2.1 hf.1, fun a ha hn k hl => by
    have hk : KS (fun a => a < sz_S σ ∧ a ∉ E) (sz_S σ) σ' a := by
      rcases Nat.lt_or_ge a (sz_S σ) with q | q
      · exact Or.inl ⟨q, hn⟩
      · exact Or.inr ⟨q, ha⟩
    rcases hc.2.2.2 a hk k hl with r | r
    · exact ⟨Nat.lt_of_lt_of_le r.1 hf.1, r.2⟩
    · exact ⟨r.2, fun hm => by have := (h.1 _ hm).2; omega⟩⟩
def eA (E : List (Nat × (Nat → Int32))) : List Nat := E.map (fun p => p.1)
/-- between two calls: the program at 70; E: the law's own rows and what they hold; n: how many calls there were at most -/
def LV (E : List (Nat × (Nat → Int32))) (B n : Nat) (C : sC) (I : qq_I) (τ : qq_R) : Prop :=
  R_C I τ 70 308 B C ∧ KC I τ ∧ ((tK τ 1).1 = 100 ∧ (tK τ 1).2 ≤ 260) ∧ cE (eA E) (I, τ) ∧ (∀ p ∈ E, tK τ p.1 = (100, 130) ∧ ∀ j, j < 130 → I p.1 j = p.2 j) ∧ (tZ τ ≤ 308 + 20 * n ∧ tU τ ≤ 10000 + 400 * n) ∧ iS B (g_S C)
theorem u_next {a b n : Nat} (h : a ≤ b + 400) (h2 : b ≤ 10000 + 400 * n) : a ≤ 10000 + 400 * (n + 1) :=
  Nat.le_trans h (Nat.le_trans (Nat.add_le_add_right h2 400) (Nat.le_of_eq (by rw [Nat.mul_succ, Nat.add_assoc])))
section LW
variable {d m D M W B B' n n' : Nat} {C C' : sC} {I I' : qq_I} {τ τ' : qq_R} {E : List (Nat × (Nat → Int32))} {av : List Value} {o : qq_O} {v : Int32} {q : qR}
theorem LV_z (h : LV E B n C I τ) : 308 ≤ tZ τ := h.2.2.2.1.2.1
theorem k70 (h : LV E B n C I τ) : (kd_S (I, τ) 70).1 = 12 := congrArg Prod.fst (h.1.1.2.1 : tK τ 70 = (12, 0))
theorem k70' (h : LV E B n C I τ) : tK τ 70 = (12, 0) := h.1.1.2.1
theorem LV_up (h : LV E B n C I τ) (hn : n ≤ n') : LV E B n' C I τ := by
  obtain ⟨h1, h2, h3, h4, h5, h6, h7⟩ := h
  exact ⟨h1, h2, h3, h4, h5, ⟨by omega, by omega⟩, h7⟩
theorem LV_B (h : LV E B n C I τ) : B ≤ 900000 := h.1.2.2.1.1
theorem LV_bu (h : LV E B n C I τ) (h1 : B ≤ B') (h2 : B' ≤ 900000) : LV E B' n C I τ := ⟨R_C_up h.1 h1 h2, h.2.1, h.2.2.1, h.2.2.2.1, h.2.2.2.2.1, h.2.2.2.2.2.1, iS_up h.2.2.2.2.2.2 h1⟩
theorem LV_w (h : LV E B n C I τ) : wS B (g_S C) := h.1.2.2.1
theorem LV_i (h : LV E B n C I τ) : iS B (g_S C) := h.2.2.2.2.2.2
/-- behind any call -/
theorem LV_call (h : LV E B n C I τ) (hr : CC d m av (I, τ) = some (o, (I', τ'))) (hv : ∀ v ∈ av, ∀ a, v = .ref a → a < tZ τ ∧ a ∉ eA E) (hR : R_C I' τ' 70 308 B' C') (hK : KC I' τ') (hz : tZ τ' ≤ 308 + 20 * n') (hu : tU τ' ≤ 10000 + 400 * n') (hi : iS B' (g_S C')) : LV E B' n' C' I' τ' := by
  obtain ⟨h1, h2, h3, h4, h5, h6, h7⟩ := h
  obtain ⟨f1, f2, -⟩ := frm_CC hr (cE_clK h4) (fun v hm a e => Or.inl (hv v hm a e))
  have hz0 : 308 ≤ sz_S (I, τ) := h4.2.1
  have k1 : tK τ' 1 = tK τ 1 := (f2.2 1 (by omega)).1
  refine ⟨hR, hK, by rw [k1]; exact h3, cE_after h4 f1 f2, fun p hp => ?_, ⟨hz, hu⟩, hi⟩
  have hm : p.1 ∈ eA E := List.mem_map.mpr ⟨p, hp, rfl⟩
  have hlt := (h4.1 p.1 hm).2
  obtain ⟨g1, g2⟩ := f2.2 p.1 hlt
  have g1 : tK τ' p.1 = tK τ p.1 := g1
  have g3 : I' p.1 = I p.1 := (g2 (fun z => z.2 hm)).1
  rw [g1, g3]
  exact h5 p hp
/-- behind a call of the class -/
theorem LV_PC (h : LV E B n C I τ) (hr : CC d m (.ref 70 :: av) (I, τ) = some (o, (I', τ'))) (hav : ∀ v ∈ av, ∃ x, v = .int x) (hp : PC I τ 70 308 B' I' τ' C') (hi : iS B' (g_S C')) : LV E B' (n + 1) C' I' τ' := by
  have hz := LV_z h
  have h6 := h.2.2.2.2.2.1
  obtain ⟨p1, p2, p3, p4⟩ := hp
  have q1 : 70 ≤ tZ τ := by omega
  have q2 : 70 < tZ τ := by omega
  have q3 : tZ τ' ≤ 308 + 20 * (n + 1) := by omega
  have q4 : tU τ' ≤ 10000 + 400 * (n + 1) := u_next p4 h6.2
  have q5 : ∀ a, a < 70 → ¬ ((70 ≤ a ∧ a < 70 + 238) ∨ 308 ≤ a) := fun a ha z => by omega
  have q6 : 70 ∉ eA E := fun hm => by have := (h.2.2.2.1.1 70 hm).1; omega
  refine LV_call h hr (fun v hv a e => ?_) p1 (KC_gf h.2.1 p2 q1 q5) q3 q4 hi
  rcases List.mem_cons.mp hv with rfl | hv
  · cases e
    exact ⟨q2, q6⟩
  · obtain ⟨x, rfl⟩ := hav v hv
    cases e
theorem hav0 : ∀ v ∈ ([] : List Value), ∃ x, v = .int x := fun v h => nomatch h
theorem hav1 {a : Int32} {l : List Value} (h : ∀ v ∈ l, ∃ x, v = .int x) : ∀ v ∈ Value.int a :: l, ∃ x, v = .int x := fun v hv => by
  rcases List.mem_cons.mp hv with rfl | hv
  · exact ⟨a, rfl⟩
  · exact h v hv
/-- a call that asks, without a wrapper -/
theorem L_dir (h : LV E B n C I τ) (hp : ∃ I' τ', CC D M (.ref 70 :: av) (I, τ) = some (oO q, (I', τ')) ∧ PC I τ 70 308 B I' τ' C) (hq : q = .inl v) (hav : ∀ v ∈ av, ∃ x, v = .int x) : LC D M (.ref 70 :: av) I τ (some (.int v)) (LV E B (n + 1) C) := by
  obtain ⟨I', τ', h1, h2⟩ := hp
  rw [hq] at h1
  exact ⟨I', τ', h1, LV_PC h h1 hav h2 (LV_i h)⟩
/-- a call that asks, by the law's wrapper -/
theorem L_ask (h : LV E B n C I τ) (hp : ∃ I' τ', CC D M (.ref 70 :: av) (I, τ) = some (oO q, (I', τ')) ∧ PC I τ 70 308 B I' τ' C) (hw : ∀ I' τ', CC D M (.ref 70 :: av) (I, τ) = some (oO q, (I', τ')) → CC (D + 1) W (.ref 70 :: av) (I, τ) = some (.inl (some (.int v)), (I', τ'))) (hav : ∀ v ∈ av, ∃ x, v = .int x) : LC (D + 1) W (.ref 70 :: av) I τ (some (.int v)) (LV E B (n + 1) C) := by
  obtain ⟨I', τ', h1, h2⟩ := hp
  exact ⟨I', τ', hw I' τ' h1, LV_PC h (hw I' τ' h1) hav h2 (LV_i h)⟩
/-- any call, by the law's wrapper -/
theorem L_do (h : LV E B n C I τ) (hp : ∃ I' τ', CC D M (.ref 70 :: av) (I, τ) = some (oO q, (I', τ')) ∧ PC I τ 70 308 B' I' τ' C') (hw : ∀ I' τ', CC D M (.ref 70 :: av) (I, τ) = some (oO q, (I', τ')) → CC (D + 1) W (.ref 70 :: av) (I, τ) = some (.inl (some (.int v)), (I', τ'))) (hav : ∀ v ∈ av, ∃ x, v = .int x) (hi : iS B' (g_S C')) : LC (D + 1) W (.ref 70 :: av) I τ (some (.int v)) (LV E B' (n + 1) C') := by
  obtain ⟨I', τ', h1, h2⟩ := hp
  exact ⟨I', τ', hw I' τ' h1, LV_PC h (hw I' τ' h1) hav h2 hi⟩
end LW
