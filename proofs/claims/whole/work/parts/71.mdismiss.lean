/-! THE MODEL: dismissals, leaves first -/
theorem pa_iff {U : sU} (hw : wU U) {k j : Nat} (hk : k < un U) : pa U k = some j ↔ j < un U ∧ w_ca (ug U k) = w_id (ug U j) + 1 := by
  constructor
  · intro h
    obtain ⟨h1, h2⟩ := pa_lt hw hk h
    exact ⟨by omega, h2⟩
  · rintro ⟨h1, h2⟩
    unfold pa
    rw [if_neg (by omega), h2, Nat.add_sub_cancel]
    exact fi_at hw h1
def shU (k i : Nat) : Nat := if i < k then i else i + 1
theorem un_sh {k j : Nat} (h : j ≠ k) : shU k (if j < k then j else j - 1) = j := by
  unfold shU
  by_cases y : j < k
  · rw [if_pos y, if_pos y]
  · rw [if_neg y, if_neg (by omega)]; omega
theorem pa_close {U : sU} (hw : wU U) {k : Nat} (hk : k < un U) (hn : ∀ j, j < un U → pa U j ≠ some k) {i : Nat} (hi : i < un U - 1) :
    (pa U (shU k i) = none → pa (su_close U k) i = none) ∧ (∀ j, pa U (shU k i) = some j → ∃ j', j' < un U - 1 ∧ shU k j' = j ∧ pa (su_close U k) i = some j') := by
  have hw' := wU_close hw hk
  have hun := un_close hk
  have hs : shU k i < un U := by unfold shU; split <;> omega
  have hi' : i < un (su_close U k) := by omega
  have hg : ug (su_close U k) i = dc (w_id (ug U k)) (ug U (shU k i)) := ug_close hk hi
  have hca : w_ca (ug (su_close U k) i) = if w_ca (ug U (shU k i)) = w_id (ug U k) + 1 then 0 else w_ca (ug U (shU k i)) := by rw [hg]; rfl
  have hne : w_ca (ug U (shU k i)) ≠ w_id (ug U k) + 1 := fun h => hn _ hs ((pa_iff hw hs).mpr ⟨hk, h⟩)
  rw [if_neg hne] at hca
  constructor
  · intro h
    rw [pa_none hw hs] at h
    rw [pa_none hw' hi', hca]
    exact h
  · intro j h
    obtain ⟨h1, h2⟩ := (pa_iff hw hs).mp h
    have hjk : j ≠ k := fun z => hne (by rw [h2, z])
    refine ⟨if j < k then j else j - 1, by split <;> omega, un_sh hjk, ?_⟩
    have hj' : (if j < k then j else j - 1) < un U - 1 := by split <;> omega
    rw [pa_iff hw' hi']
    refine ⟨by omega, ?_⟩
    have hg2 : ug (su_close U k) (if j < k then j else j - 1) = dc (w_id (ug U k)) (ug U (shU k (if j < k then j else j - 1))) := ug_close hk hj'
    have hs2 : shU k (if j < k then j else j - 1) = j := un_sh hjk
    rw [hs2] at hg2
    rw [hg2, hca]
    exact h2
theorem shU_inj {k i j : Nat} (h : shU k i = shU k j) : i = j := by
  unfold shU at h
  split at h <;> split at h <;> omega
theorem beU_close {U : sU} (hw : wU U) {k : Nat} (hk : k < un U) (hn : ∀ j, j < un U → pa U j ≠ some k) {q : Nat} : ∀ n i, i < un U - 1 → beU (su_close U k) q n i = beU U (shU k q) n (shU k i) := by
  intro n
  induction n with
  | zero => intro i _; rfl
  | succ n ih =>
    intro i hi
    obtain ⟨h1, h2⟩ := pa_close hw hk hn hi
    rw [beU, beU]
    have e : (shU k i == shU k q) = (i == q) := by
      rw [Bool.eq_iff_iff, beq_iff_eq, beq_iff_eq]
      exact ⟨shU_inj, fun h => by rw [h]⟩
    rw [e]
    cases hp : pa U (shU k i) with
    | none => rw [h1 hp]
    | some j =>
      obtain ⟨j', j1, j2, j3⟩ := h2 j hp
      rw [j3]
      show (i == q || beU (su_close U k) q n j') = (i == q || beU U (shU k q) n j)
      rw [ih j' j1, j2]
theorem cn_zero {f : Nat → Bool} : ∀ n, cn f n = 0 → ∀ k, k < n → f k = false := by
  intro n
  induction n with
  | zero => intro _ k hk; omega
  | succ n ih =>
    intro h k hk
    have e : cn f (n + 1) = cn f n + (if f n = true then 1 else 0) := rfl
    rw [e] at h
    have h1 : cn f n = 0 := by omega
    by_cases y : k = n
    · subst y
      cases hf : f k with
      | false => rfl
      | true => rw [hf, if_pos rfl] at h; omega
    · exact ih h1 k (by omega)
theorem cn_some {f : Nat → Bool} : ∀ n, cn f n ≠ 0 → ∃ k, k < n ∧ f k = true := by
  intro n
  induction n with
  | zero => intro h; exact absurd rfl h
  | succ n ih =>
    intro h
    have e : cn f (n + 1) = cn f n + (if f n = true then 1 else 0) := rfl
    by_cases y : f n = true
    · exact ⟨n, Nat.lt_succ_self _, y⟩
    · rw [e, if_neg y, Nat.add_zero] at h
      obtain ⟨k, h1, h2⟩ := ih h
      exact ⟨k, by omega, h2⟩
theorem leaf_pa {U : sU} {k : Nat} (h : cn (fun i => bhU U k 8 i) (un U) = 0) : ∀ j, j < un U → pa U j ≠ some k := by
  intro j hj hp
  have h1 := cn_zero _ h j hj
  have h1 : bhU U k 8 j = false := h1
  unfold bhU at h1
  rw [hp] at h1
  have h1 : beU U k 8 k = false := h1
  rw [beU, beq_self_eq_true, Bool.true_or] at h1
  exact Bool.noConfusion h1
theorem beU_tr {U : sU} (hw : wU U) {q i : Nat} (hi : beU U q 8 i = true) : ∀ j, j < un U → beU U i 8 j = true → beU U q 8 j = true := by
  intro j
  induction j using Nat.strongRecOn with
  | ind j ih =>
    intro hj h
    rw [beU_bhU hw hj, Bool.or_eq_true] at h
    rcases h with h | h
    · rw [beq_iff_eq] at h
      rw [h]; exact hi
    · unfold bhU at h
      cases hp : pa U j with
      | none => rw [hp] at h; exact Bool.noConfusion h
      | some j' =>
        rw [hp] at h
        have h : beU U i 8 j' = true := h
        have hlt := pa_lt2 hw hj hp
        have h2 := ih j' hlt (by omega) h
        rw [beU_bhU hw hj]
        unfold bhU
        rw [hp]
        show (j == q || beU U q 8 j') = true
        rw [h2, Bool.or_true]
theorem bhU_gt {U : sU} (hw : wU U) {q i : Nat} (hi : i < un U) (h : bhU U q 8 i = true) : q < i := by
  unfold bhU at h
  cases hp : pa U i with
  | none => rw [hp] at h; exact Bool.noConfusion h
  | some j =>
    rw [hp] at h
    have h : beU U q 8 j = true := h
    have hlt := pa_lt2 hw hi hp
    refine Nat.lt_of_not_le (fun z => ?_)
    rw [beU_low hw 8 j (by omega) (by omega)] at h
    exact Bool.noConfusion h
theorem no_behind {U : sU} (hw : wU U) {q : Nat} (h : ∀ i, i < un U → bhU U q 8 i = true → cn (fun k => bhU U i 8 k) (un U) ≠ 0) : ∀ n i, i + n = un U → ∀ j, i ≤ j → j < un U → bhU U q 8 j = false := by
  intro n
  induction n with
  | zero => intro i h1 j h2 h3; omega
  | succ n ih =>
    intro i h1 j h2 h3
    by_cases y : j = i
    · subst y
      cases hb : bhU U q 8 j with
      | false => rfl
      | true =>
        obtain ⟨k, k1, k2⟩ := cn_some _ (h j h3 hb)
        have k2 : bhU U j 8 k = true := k2
        have hlt := bhU_gt hw k1 k2
        have e1 : beU U j 8 k = true := by rw [beU_bhU hw k1, k2, Bool.or_true]
        have e2 : beU U q 8 j = true := by rw [beU_bhU hw h3, hb, Bool.or_true]
        have e3 := beU_tr hw e2 k k1 e1
        have e4 := ih (j + 1) (by omega) k (by omega) k1
        have e5 := bhU_gt hw h3 hb
        rw [beU_bhU hw k1, e4, Bool.or_false, beq_iff_eq] at e3
        omega
    · exact ih (i + 1) (by omega) j (by omega) h3
section MDI
variable {d : Nat} {I : qq_I} {τ : qq_R} {m B : Nat} {S : sS}
theorem c_isBh (hL : L_N τ m) (hR : R_F (I (m + 1)) S) (hw : wS B S) {q : Nat} (hq : q < un (s_U S)) {k : Nat} (hk : k < un (s_U S)) : CC (d + 2) 237 [.ref m, .int (iN k), .int (iN (w_id (ug (s_U S) q)))] (I, τ) = some (.inl (some (.int (b01 (bhU (s_U S) q 8 k)))), (I, τ)) := by
  have w3 := hw.2.2.1.1
  rw [c_237, b_237_0]
  exact c_isBehind hL hR hw hq (iN k) (k + 1) k 8 (Nat.lt_succ_self _) hk (by omega)
theorem R_F_5 {J : qq_I} {T : sS} (h : R_F (J (m + 1)) T) (w1 : p_np (s_P T) ≤ 8) (w2 : p_ns (s_P T) ≤ 6) {v : Int32} : R_F (up_2 J (m + 1) 5 v (m + 1)) (s_P T, s_U T, s_M T, (s_ni T, s_he T, s_up T, v, s_la T)) := by
  obtain ⟨a0, a1, a2, a3, a4, a5, a6, a7, a8, a9, a10, a11, a12, a13, a14⟩ := h
  refine ⟨by rw [up_k (by omega)]; exact a0, by rw [up_k (by omega)]; exact a1, by rw [up_k (by omega)]; exact a2, by rw [up_k (by omega)]; exact a3, by rw [up_k (by omega)]; exact a4, up_at, by rw [up_k (by omega)]; exact a6, by rw [up_k (by omega)]; exact a7, by rw [up_k (by omega)]; exact a8, by rw [up_k (by omega)]; exact a9, by rw [up_k (by omega)]; exact a10, fun i hi => by rw [up_k (by omega)]; exact a11 i hi, fun i hi => ?_, fun i hi => ?_, fun w hw => by rw [up_k (by omega)]; exact a14 w hw⟩
  · rw [up_k (by omega), up_k (by omega), up_k (by omega)]; exact a12 i hi
  · rw [up_k (by omega), up_k (by omega), up_k (by omega), up_k (by omega), up_k (by omega), up_k (by omega)]; exact a13 i hi
/-- the cases of a dismissal's loop -/
theorem c_dismisses (hL : L_N τ m) {f : sW → Bool} (hf : fok f) {id : Nat} : ∀ M (T : sS) (J : qq_I) q k, un (s_U T) * 10 + (un (s_U T) - k) < M → wS B T → R_F (J (m + 1)) T → q < un (s_U T) → w_id (ug (s_U T) q) = id → (∀ i, i < un (s_U T) → f (ug (s_U T) i) = !(beU (s_U T) q 8 i)) → k ≤ un (s_U T) → (∀ i, i < k → bhU (s_U T) q 8 i = true → cn (fun j => bhU (s_U T) i 8 j) (un (s_U T)) ≠ 0) →
      ∃ I', RR (d + 4) 246 2 [some (.ref m), some (.int (iN id)), some (.int (iN k))] [] (J, τ) = some (.inl none, (I', τ)) ∧ R_F (I' (m + 1)) (dsD f T) ∧ wS B (dsD f T) ∧ (∀ c, c ≠ m + 1 → I' c = J c) := by
  have hL0 := hL
  obtain ⟨m70, k0, r0, -, -, -, -, -, -, -, -, g1, -⟩ := hL
  have p1 : ∀ i, i < 106 → vp_in (iN i) 106 = True := fun i h => vp_iN h (by omega)
  intro M
  induction M with
  | zero => intro T J q k h; omega
  | succ M ih =>
    intro T J q k hM hT hJ hq hid hfi hk hlow
    have w3 := hT.2.2.1.1
    have h10 := hJ.2.2.2.2.2.2.2.2.2.2.1
    rw [b_246_2]
    by_cases hku : k < un (s_U T)
    · have hkn : (iN k < iN (un (s_U T))) = True := (iN_lt (by omega) (by omega)).trans (eq_true hku)
      have q1 := c_isBh (d := d + 1) hL0 hJ hT hq hku
      rw [hid] at q1
      have hnext : (bhU (s_U T) q 8 k = true → cn (fun j => bhU (s_U T) k 8 j) (un (s_U T)) ≠ 0) → ∃ I', RR (d + 4) 246 2 [some (.ref m), some (.int (iN id)), some (.int (iN (k + 1)))] [] (J, τ) = some (.inl none, (I', τ)) ∧ R_F (I' (m + 1)) (dsD f T) ∧ wS B (dsD f T) ∧ (∀ c, c ≠ m + 1 → I' c = J c) := fun hh =>
        ih T J q (k + 1) (by omega) hT hJ hq hid hfi hku (fun i hi hb => by
          by_cases y : i = k
          · subst y; exact hh hb
          · exact hlow i (by omega) hb)
      cases hb : bhU (s_U T) q 8 k with
      | false =>
        rw [hb, b01_f] at q1
        obtain ⟨I', t1, t2⟩ := hnext (fun z => by rw [hb] at z; cases z)
        refine ⟨I', ?_, t2⟩
        simp (disch := omega) only [kd_mk, rd_R_mk, rd_I_mk, wr_I_mk, k0, r0, g1, gd_true, true_and, and_true, and_self, p1, iN_n, h10, hkn, if_true, q1, bd_ret, vl_some, vl_none, b_246_12, b_246_35, iN_add]
        exact t1
      | true =>
        rw [hb, b01_t] at q1
        have q2 : CC (d + 3) 216 [.ref m, .int (iN k), .int (iN 0)] (J, τ) = some (.inl (some (.int (J (m + 1) (37 + 6 * k)))), (J, τ)) := c_of (d := d + 3) (I := J) k0 r0 g1 (k := k) (w := 0) (by omega) (by omega)
        rw [(hJ.2.2.2.2.2.2.2.2.2.2.2.2.2.1 k hku).1] at q2
        have q3 := c_behind (d := d) hL0 hJ hT hku
        have hcnl : cn (fun j => bhU (s_U T) k 8 j) (un (s_U T)) ≤ un (s_U T) := cn_le
        have e10 : (iN 1 = iN 0) = False := (iN_eq (by omega) (by omega)).trans (eq_false (by omega))
        by_cases hz : cn (fun j => bhU (s_U T) k 8 j) (un (s_U T)) = 0
        · rw [hz] at q3
          have hgt := bhU_gt hT.2.2.1 hku hb
          have hlf := leaf_pa hz
          have hgk : f (ug (s_U T) k) = false := by rw [hfi k hku, beU_bhU hT.2.2.1 hku, hb, Bool.or_true]; rfl
          obtain ⟨K, t1, t2, t3⟩ := c_closes (d := d + 2) hL0 hJ hT hku true
          have t1 : CC (d + 3) 236 [.ref m, .int (iN k), .int (iN 1)] (J, τ) = some (.inl none, (K, τ)) := t1
          have t2 : R_F (K (m + 1)) (clS T k) := t2
          have hun : un (s_U (clS T k)) = un (s_U T) - 1 := un_close hku
          have k5 : K (m + 1) 5 = s_di T := t2.2.2.2.2.2.1
          have hR2 := R_F_5 (v := s_di T + iN 1) t2 (wS_cl hT hku).2.1.1 (wS_cl hT hku).2.1.2.1
          have hsh : ∀ i, i < k → shU k i = i := fun i hi => if_pos hi
          obtain ⟨I', v1, v2, v3, v4⟩ := ih (clD T k) (up_2 K (m + 1) 5 (s_di T + iN 1)) q 0 (by show un (s_U (clS T k)) * 10 + (un (s_U (clS T k)) - 0) < M; omega) (wS_cnt (wS_cl hT hku)) hR2 (by show q < un (s_U (clS T k)); omega)
            (by
              show w_id (ug (su_close (s_U T) k) q) = id
              rw [ug_close hku (by omega), if_pos hgt]
              exact hid)
            (fun i hi => by
              have hi : i < un (s_U (clS T k)) := hi
              show f (ug (su_close (s_U T) k) i) = !(beU (su_close (s_U T) k) q 8 i)
              rw [ug_close hku (by omega), hf, beU_close hT.2.2.1 hku hlf 8 i (by omega), hsh q hgt]
              exact hfi _ (by split <;> omega))
            (Nat.zero_le _) (fun i hi => absurd hi (Nat.not_lt_zero _))
          rw [dsD_close hf hku hgk] at v2 v3
          refine ⟨I', ?_, v2, v3, fun c hc => by rw [v4 c hc, up_c hc, t3 c hc]⟩
          simp (disch := omega) only [kd_mk, rd_R_mk, rd_I_mk, wr_I_mk, k0, r0, g1, gd_true, true_and, and_true, and_self, p1, iN_n, h10, hkn, if_true, q1, bd_ret, vl_some, vl_none, b_246_12, e10, if_false, q2, b_246_18, q3, b_246_19, t1, b_246_24, k5, K0_le, b_246_32]
          exact v1
        · have ez : (iN (cn (fun j => bhU (s_U T) k 8 j) (un (s_U T))) = iN 0) = False := (iN_eq (by omega) (by omega)).trans (eq_false hz)
          obtain ⟨I', t1, t2⟩ := hnext (fun _ => hz)
          refine ⟨I', ?_, t2⟩
          simp (disch := omega) only [kd_mk, rd_R_mk, rd_I_mk, wr_I_mk, k0, r0, g1, gd_true, true_and, and_true, and_self, p1, iN_n, h10, hkn, if_true, q1, bd_ret, vl_some, vl_none, b_246_12, e10, if_false, q2, b_246_18, q3, b_246_19, ez, b_246_35, iN_add]
          exact t1
    · have hk2 : k = un (s_U T) := by omega
      have hkn : (iN k < iN (un (s_U T))) = False := (iN_lt (by omega) (by omega)).trans (eq_false hku)
      have hnb := no_behind hT.2.2.1 (q := q) (fun i hi hb => hlow i (by omega) hb) (un (s_U T)) 0 (Nat.zero_add _)
      have hidb := (hT.2.2.1.2.2.2 q hq).1
      have hix := hT.2.2.1.2.1
      have hat := c_at (d := d + 2) hL0 hJ hT (iN (w_id (ug (s_U T) q)))
      have hfx : fiX (s_U T) (iN (w_id (ug (s_U T) q))) = some q := by rw [fiX_iN hT.2.2.1 (by omega)]; exact fi_at hT.2.2.1 hq
      rw [hfx, hid] at hat
      have hat : CC (d + 3) 220 [.ref m, .int (iN id)] (J, τ) = some (.inl (some (.int (iN q))), (J, τ)) := hat
      have hgq : f (ug (s_U T) q) = false := by rw [hfi q hq, beU, beq_self_eq_true, Bool.true_or]; rfl
      obtain ⟨K, t1, t2, t3⟩ := c_closes (d := d + 2) hL0 hJ hT hq true
      have t1 : CC (d + 3) 236 [.ref m, .int (iN q), .int (iN 1)] (J, τ) = some (.inl none, (K, τ)) := t1
      have t2 : R_F (K (m + 1)) (clS T q) := t2
      have hun : un (s_U (clS T q)) = un (s_U T) - 1 := un_close hq
      have k5 : K (m + 1) 5 = s_di T := t2.2.2.2.2.2.1
      have hR2 := R_F_5 (v := s_di T + iN 1) t2 (wS_cl hT hq).2.1.1 (wS_cl hT hq).2.1.2.1
      have hall : dsD f (clD T q) = clD T q := dsD_all (fun i hi => by
        have hi : i < un (s_U (clS T q)) := hi
        show f (ug (su_close (s_U T) q) i) = true
        have hs : (if i < q then i else i + 1) < un (s_U T) := by split <;> omega
        have hs2 : (if i < q then i else i + 1) ≠ q := by split <;> omega
        rw [ug_close hq (by omega), hf, hfi _ hs, beU_bhU hT.2.2.1 hs, hnb _ (Nat.zero_le _) hs, beq_eq_false_iff_ne.mpr hs2]
        rfl)
      rw [dsD_close hf hq hgq] at hall
      rw [hall]
      refine ⟨up_2 K (m + 1) 5 (s_di T + iN 1), ?_, hR2, wS_cnt (wS_cl hT hq), fun c hc => by rw [up_c hc, t3 c hc]⟩
      simp (disch := omega) only [kd_mk, rd_R_mk, rd_I_mk, wr_I_mk, k0, r0, g1, gd_true, true_and, and_true, and_self, p1, iN_n, h10, hkn, if_false, hat, bd_ret, vl_some, vl_none, b_246_41, t1, b_246_43, k5, K0_le, b_246_51]
/-- a dismissal of a writ and of all that follows it -/
theorem c_dismiss (hL : L_N τ m) (hR : R_F (I (m + 1)) S) (hw : wS B S) {q : Nat} (hq : q < un (s_U S)) : ∃ I', CC (d + 4) 246 [.ref m, .int (iN (w_id (ug (s_U S) q)))] (I, τ) = some (.inl none, (I', τ)) ∧ R_F (I' (m + 1)) (dsD (heF (s_U S) q) S) ∧ wS B (dsD (heF (s_U S) q) S) ∧ (∀ c, c ≠ m + 1 → I' c = I c) := by
  rw [c_246, b_246_0]
  exact c_dismisses (d := d) hL (f := heF (s_U S) q) heF_ok (un (s_U S) * 10 + (un (s_U S) - 0) + 1) S I q 0 (Nat.lt_succ_self _) hw hR hq rfl (fun i hi => heF_g hw.2.2.1 hi) (Nat.zero_le _) (fun i hi => absurd hi (Nat.not_lt_zero _))
end MDI
