/-! READING AND WRITING THE HEAP UNDER THE ABSTRACT STATE -/
theorem qq_nl : qq_tys.length = 13 ∧ qq_cl.length = 13 := ⟨rfl, rfl⟩
theorem qq_at_no {t : Nat} (h : qq_at t = true) : 100 ≤ t ∧ t < 120 ∧ t ≠ 200 := by
  simp only [qq_at, Bool.or_eq_true, decide_eq_true_eq] at h
  omega
theorem hp_lt {X : qq_X} {σ : qq_S} {H : Heap} (h : qq_Hp X σ H) {a : Nat} (hk : (kd_S σ a).1 ≠ 200) : a < sz_S σ := by
  rcases Nat.lt_or_ge a (sz_S σ) with q | q
  · exact q
  · exact absurd (h.2.2.2.1 a q) hk
theorem ro_own {X : qq_X} {a : Nat} (h : qq_K0 ≤ a) : ro_ X a = some (xb_ X + (a - qq_K0)) := if_neg (by omega)
theorem ro_con {X : qq_X} {a : Nat} (h : a < qq_K0) : ro_ X a = X.2.2.2.1 a := if_pos h
theorem hp_ar {X : qq_X} {σ : qq_S} {H : Heap} {s : State} (hF : qq_Fx X s) (h : qq_Hp X σ H) {a t : Nat} (hk : (kd_S σ a).1 = t) (ht : qq_at t = true) :
    ∃ p, ro_ X a = some p ∧ qq_Ar s H p t (kd_S σ a).2 (fun j => rv_ X (qq_val σ (qq_et t) a j)) := by
  obtain ⟨t1, t2, t3⟩ := qq_at_no ht
  have hlt := hp_lt h (a := a) (by rw [hk]; exact t3)
  obtain ⟨h0, hz, hq, hn, hc, ho⟩ := h
  by_cases hK : a < qq_K0
  · obtain ⟨e1, e2⟩ := hc a hK
    have hck : qq_ck a = t := e1.symm.trans hk
    rw [hck, if_neg (by omega), if_pos (by omega)] at e2
    obtain ⟨p, cell, g1, g2, g3, g4, g5⟩ := hF.2.2.2.2.2.1 a hK (by rw [hck]; exact ht)
    obtain ⟨g6, g7⟩ := e2 p cell g1 g2
    rw [hck] at g3
    exact ⟨p, by rw [ro_con hK]; exact g1, cell, by rw [hq p (Array.getElem?_eq_some_iff.mp g2).1]; exact g2, g3, g4, g5, g6, g7⟩
  · have hK' : qq_K0 ≤ a := by omega
    have hce := ho a hK' hlt
    rw [qq_Ce, hk, if_neg (by omega), if_pos (by omega)] at hce
    refine ⟨_, ro_own hK', _, hce.2, (hF.2.2.2.1 t ht).1 _ _, (fun q => by cases q), rfl, arrV_size _ _ _, fun j hj => ?_⟩
    rw [arrV_read _ _ hj]
theorem hp_ob {X : qq_X} {σ : qq_S} {H : Heap} (h : qq_Hp X σ H) {a c : Nat} (hk : (kd_S σ a).1 = c) (hc100 : c < 100) :
    ∃ p, ro_ X a = some p ∧ qq_Ob H p (X.1 c) (qq_nr c) (X.2.1 c) (fun k => rv_ X (qq_val σ (qq_ty c k) a k)) := by
  have hlt := hp_lt h (a := a) (by rw [hk]; omega)
  obtain ⟨h0, hz, hq, hn, hc, ho⟩ := h
  by_cases hK : a < qq_K0
  · obtain ⟨e1, e2⟩ := hc a hK
    have hck : qq_ck a = c := e1.symm.trans hk
    rw [hck, if_pos hc100] at e2
    obtain ⟨p, g1, cell, g2, g3⟩ := e2
    exact ⟨p, by rw [ro_con hK]; exact g1, cell, by rw [hq p (Array.getElem?_eq_some_iff.mp g2).1]; exact g2, g3⟩
  · have hK' : qq_K0 ≤ a := by omega
    have hce := ho a hK' hlt
    rw [qq_Ce, hk, if_pos hc100] at hce
    obtain ⟨-, cell, g1, g2, g3, g4⟩ := hce
    exact ⟨_, ro_own hK', cell, g1, g2, by rw [g3]; exact (fun q => nomatch q), by rw [g3]; rfl, fun k hk => g4 k (Nat.lt_of_lt_of_le hk nr_le)⟩
/-- a reference that is one -/
theorem hp_ref {X : qq_X} {σ : qq_S} {H : Heap} {s : State} (hF : qq_Fx X s) (h : qq_Hp X σ H) {a : Nat} (hk : (kd_S σ a).1 < 200) : ∃ p, ro_ X a = some p ∧ p < H.size := by
  have hlt := hp_lt h (a := a) (by omega)
  obtain ⟨h0, hz, hq, hn, hc, ho⟩ := h
  by_cases hK : a < qq_K0
  · obtain ⟨e1, e2⟩ := hc a hK
    rw [← e1] at e2
    by_cases hc1 : (kd_S σ a).1 < 100
    · rw [if_pos hc1] at e2
      obtain ⟨p, g1, cell, g2, g3⟩ := e2
      exact ⟨p, by rw [ro_con hK]; exact g1, by have := (Array.getElem?_eq_some_iff.mp g2).1; simp only [xb_] at hz; omega⟩
    · have hat : qq_at (qq_ck a) = true := by
        have key : ∀ b, b < qq_K0 → 100 ≤ qq_ck b → qq_ck b < 200 → qq_at (qq_ck b) = true := by decide +kernel
        exact key a hK (by rw [← e1]; omega) (by rw [← e1]; omega)
      obtain ⟨p, cell, g1, g2, -⟩ := hF.2.2.2.2.2.1 a hK hat
      exact ⟨p, by rw [ro_con hK]; exact g1, by have := (Array.getElem?_eq_some_iff.mp g2).1; simp only [xb_] at hz; omega⟩
  · have hK' : qq_K0 ≤ a := by omega
    exact ⟨_, ro_own hK', by omega⟩
theorem Co_same {X : qq_X} {σ σ' : qq_S} {a : Nat} (hk : kd_S σ' a = kd_S σ a) (hv : ∀ ty k, qq_val σ' ty a k = qq_val σ ty a k) (h : qq_Co X σ a) : qq_Co X σ' a := by
  unfold qq_Co at h ⊢
  rw [hk]
  simp only [hv]
  exact h
theorem Ce_same {X : qq_X} {σ σ' : qq_S} {a : Nat} {H H' : Heap} (hk : kd_S σ' a = kd_S σ a) (hv : ∀ ty k, qq_val σ' ty a k = qq_val σ ty a k) (hq : H'[xb_ X + (a - qq_K0)]? = H[xb_ X + (a - qq_K0)]?) (h : qq_Ce X σ a H) : qq_Ce X σ' a H' := by
  unfold qq_Ce at h ⊢
  rw [hk]
  simp only [hv]
  split at h
  · rename_i h1
    rw [if_pos h1]
    exact ⟨h.1, h.2.kept hq⟩
  · rename_i h1
    rw [if_neg h1]
    split at h
    · rename_i h2
      rw [if_pos h2]
      exact ⟨h.1, hq.trans h.2⟩
    · rename_i h2
      rw [if_neg h2]
      trivial
theorem hp_put {X : qq_X} {σ σ' : qq_S} {H H' : Heap} {a : Nat} (h : qq_Hp X σ H) (ha : qq_K0 ≤ a) (has : a < sz_S σ) (hk : ∀ b, kd_S σ' b = kd_S σ b) (hs : sz_S σ' = sz_S σ) (hv : ∀ b, b ≠ a → ∀ ty k, qq_val σ' ty b k = qq_val σ ty b k)
    (e : qq_Ce X σ' a H') (hz' : H'.size = H.size) (oq : ∀ q : Nat, q ≠ xb_ X + (a - qq_K0) → H'[q]? = H[q]?) : qq_Hp X σ' H' := by
  obtain ⟨h0, hz, hq, hn, hc, ho⟩ := h
  refine ⟨by rw [hs]; exact h0, by rw [hz', hs]; exact hz, fun q hq' => by rw [oq q (by omega)]; exact hq q hq', fun b hb => by rw [hk]; exact hn b (by rw [← hs]; exact hb), fun b hb => Co_same (hk b) (hv b (by omega)) (hc b hb), fun b hb hb2 => ?_⟩
  by_cases hba : b = a
  · subst hba; exact e
  · exact Ce_same (hk b) (hv b hba) (oq _ (by omega)) (ho b hb (by rw [← hs]; exact hb2))
theorem val_up {σ : qq_S} {a b : Nat} (h : b ≠ a) (k0 : Nat) (v : Int32) (ty : FieldType) (k : Nat) : qq_val (wr_I σ a k0 v) ty b k = qq_val σ ty b k := by
  have e : rd_I (wr_I σ a k0 v) b k = rd_I σ b k := if_neg (fun q => h q.1)
  cases ty <;> simp only [qq_val, e] <;> rfl
theorem val_upR {σ : qq_S} {a b : Nat} (h : b ≠ a) (k0 : Nat) (v : Nat) (ty : FieldType) (k : Nat) : qq_val (wr_R σ a k0 v) ty b k = qq_val σ ty b k := by
  have e : rd_R (wr_R σ a k0 v) b k = rd_R σ b k := if_neg (fun q => h q.1)
  cases ty <;> simp only [qq_val, e] <;> rfl
theorem val_upL {σ : qq_S} {a b : Nat} (h : b ≠ a) (k0 : Nat) (v : Int64) (ty : FieldType) (k : Nat) : qq_val (wr_L σ a k0 v) ty b k = qq_val σ ty b k := by
  have e : rd_L (wr_L σ a k0 v) b k = rd_L σ b k := if_neg (fun q => h q.1)
  cases ty <;> simp only [qq_val, e] <;> rfl
theorem val_upD {σ : qq_S} {a b : Nat} (h : b ≠ a) (k0 : Nat) (v : UInt64) (ty : FieldType) (k : Nat) : qq_val (wr_D σ a k0 v) ty b k = qq_val σ ty b k := by
  have e : rd_D (wr_D σ a k0 v) b k = rd_D σ b k := if_neg (fun q => h q.1)
  cases ty <;> simp only [qq_val, e] <;> rfl
/-- a new cell -/
theorem hp_new {X : qq_X} {σ : qq_S} {H H' : Heap} (h : qq_Hp X σ H) (kd : Nat × Nat) (n : Nat) (hz' : H'.size = H.size + 1) (oq : ∀ q : Nat, q < H.size → H'[q]? = H[q]?)
    (e : qq_Ce X (nw_S σ 1 kd n) (sz_S σ) H') : qq_Hp X (nw_S σ 1 kd n) H' := by
  obtain ⟨h0, hz, hq, hn, hc, ho⟩ := h
  have hs : sz_S (nw_S σ 1 kd n) = sz_S σ + 1 := rfl
  have hk : ∀ b, b ≠ sz_S σ → kd_S (nw_S σ 1 kd n) b = kd_S σ b := fun b hb => if_neg (by omega)
  have hv : ∀ b, b ≠ sz_S σ → ∀ ty k, qq_val (nw_S σ 1 kd n) ty b k = qq_val σ ty b k := by
    intro b hb ty k
    have e1 : rd_I (nw_S σ 1 kd n) b k = rd_I σ b k := if_neg (by omega)
    have e2 : rd_R (nw_S σ 1 kd n) b k = rd_R σ b k := if_neg (by omega)
    have e3 : rd_L (nw_S σ 1 kd n) b k = rd_L σ b k := if_neg (by omega)
    have e4 : rd_D (nw_S σ 1 kd n) b k = rd_D σ b k := if_neg (by omega)
    cases ty <;> simp only [qq_val, e1, e2, e3, e4]
  refine ⟨by rw [hs]; omega, by rw [hz', hs, hz]; omega, fun q hq' => by rw [oq q (by omega)]; exact hq q hq', fun b hb => by rw [hk b (by omega)]; exact hn b (by omega), fun b hb => Co_same (hk b (by omega)) (hv b (by omega)) (hc b hb), fun b hb hb2 => ?_⟩
  by_cases hba : b = sz_S σ
  · subst hba; exact e
  · exact Ce_same (hk b hba) (hv b hba) (oq _ (by omega)) (ho b hb (by omega))
theorem nw_val (σ : qq_S) (kd : Nat × Nat) (n : Nat) (ty : FieldType) (k : Nat) (m : Nat) : qq_val (nw_S σ (m + 1) kd n) ty (sz_S σ) k = (match ty with | .long => .long 0 | .double => .double 0 | .object _ => .ref 0 | .array _ => .ref 0 | .float => .float 0 | _ => .int 0) := by
  have hc : sz_S σ ≤ sz_S σ ∧ sz_S σ < sz_S σ + (m + 1) := by omega
  have e1 : rd_I (nw_S σ (m + 1) kd n) (sz_S σ) k = 0 := if_pos hc
  have e2 : rd_R (nw_S σ (m + 1) kd n) (sz_S σ) k = 0 := if_pos hc
  have e3 : rd_L (nw_S σ (m + 1) kd n) (sz_S σ) k = 0 := if_pos hc
  have e4 : rd_D (nw_S σ (m + 1) kd n) (sz_S σ) k = 0 := if_pos hc
  cases ty <;> simp only [qq_val, e1, e2, e3, e4]
