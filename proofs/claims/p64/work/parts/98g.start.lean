/-! THE LAW: its start -/
section LS
variable {d : Nat} {I I' I2 : qq_I} {τ τ' τ2 : qq_R}
/-- nothing of some cells has changed -/
def Sm (lo hi : Nat) (I : qq_I) (τ : qq_R) (I' : qq_I) (τ' : qq_R) : Prop := ∀ a, lo ≤ a → a < hi → I' a = I a ∧ tK τ' a = tK τ a ∧ ∀ k, tR τ' a k = tR τ a k
theorem Sm_nT {lo hi s : Nat} {kd : Nat × Nat} (h : hi ≤ tZ τ) : Sm lo hi I τ (nwI τ I) (nT τ kd s) := fun a _ ha => ⟨nI_o (by omega), nT_Ko (by omega), fun k => nT_Ro (by omega)⟩
theorem Sm_CN {lo hi x n u : Nat} (h : CN x n u I τ I' τ') (hh : hi ≤ tZ τ) (hx : x < lo ∨ hi ≤ x) : Sm lo hi I τ I' τ' := fun a h1 h2 => ⟨(h.2.2.1 a (by omega) (by omega)).1, h.2.2.2 a (by omega), (h.2.2.1 a (by omega) (by omega)).2⟩
theorem Sm_tr {lo hi : Nat} (h1 : Sm lo hi I τ I' τ') (h2 : Sm lo hi I' τ' I2 τ2) : Sm lo hi I τ I2 τ2 := fun a ha hb => ⟨(h2 a ha hb).1.trans (h1 a ha hb).1, (h2 a ha hb).2.1.trans (h1 a ha hb).2.1, fun k => ((h2 a ha hb).2.2 k).trans ((h1 a ha hb).2.2 k)⟩
/-- what holds at the law's entry -/
def L0 (I : qq_I) (τ : qq_R) : Prop := tZ τ = 70 ∧ KC I τ ∧ ((tK τ 1).1 = 100 ∧ (tK τ 1).2 ≤ 260) ∧ tU τ ≤ 900 ∧ ∀ a, a < 70 → ∀ k, lgR (I, τ) a k → tR τ a k < 70
theorem iS_0 : iS 0 S0s := ⟨fun w hw => (nomatch hw), 0, rfl, Nat.le_refl _, Nat.le_refl _⟩
theorem L_start (h : L0 I τ) {P : qq_O → qq_I → qq_R → Prop} (hP : ∀ C I τ, LV [] 23760 36 C I τ → g_T C = [] → 3 ≤ p_np (s_P (g_S C)) → P (.inl (some (.ref 70))) I τ) : RP (CC (d + 44) 239 [.ref 1] (I, τ)) P := by
  obtain ⟨hz, hK, hk1, hU, hcl⟩ := h
  have q12 : qq_nf 12 ≤ 20 := by decide
  have c0 : clK (fun a => a < 70) 70 (I, τ) := ⟨by show 70 ≤ tZ τ; omega, fun a ha => ha, fun a ha => ha, fun a ha k hl => Or.inl (hcl a (ha.elim id (fun q => by have q2 : a < tZ τ := q.2; omega)) k hl)⟩
  obtain ⟨c1, -⟩ := K_nw (n := 1) (kd := (12, 0)) (s := qq_nf 12) c0
  rw [nw_mk] at c1
  rw [c_239, b_239_0, nw_mk, sz_mk, hz]
  have m0 : Sm 0 70 I τ (nwI τ I) (nT τ (12, 0) (qq_nf 12)) := Sm_nT (by omega)
  have z1 : tZ (nT τ (12, 0) (qq_nf 12)) = 70 + 1 := by rw [nT_Z, hz]
  have u1 : tU (nT τ (12, 0) (qq_nf 12)) = tU τ + qq_nf 12 := nT_U
  have k70 : tK (nT τ (12, 0) (qq_nf 12)) 70 = (12, 0) := by rw [← hz]; exact nT_K
  generalize nwI τ I = I1 at *
  generalize nT τ (12, 0) (qq_nf 12) = τ1 at *
  obtain ⟨I2, τ2, s1, n1, f2⟩ := k_129 (d := d + 40) (I := I1) (τ := τ1) (c := 70) z1 (Nat.le_refl _) k70
  have s1 : CC (d + 43) 129 [.ref 70] (I1, τ1) = some (.inl none, (I2, τ2)) := s1
  have m1 : Sm 0 70 I1 τ1 I2 τ2 := Sm_CN n1 (by omega) (by omega)
  have z2 : tZ τ2 = 308 := by rw [n1.1, z1]
  have u2 := n1.2.1
  have m2 := Sm_tr m0 m1
  obtain ⟨c2, -, -⟩ := frm_CC s1 c1 (fun v hv a e => by
    rcases List.mem_cons.mp hv with r | hv
    · rw [r] at e
      cases e
      exact Or.inr ⟨Nat.le_refl _, by show 70 < tZ τ1; omega⟩
    · exact nomatch hv)
  have ks : ∀ a, a < 308 ↔ KS (fun a => a < 70) 70 (I2, τ2) a := fun a => ⟨fun ha => by
    rcases Nat.lt_or_ge a 70 with q | q
    · exact Or.inl q
    · exact Or.inr ⟨q, by show a < tZ τ2; omega⟩, fun ha => ha.elim (fun q => by have q : a < 70 := q; omega) (fun q => by have q2 : a < tZ τ2 := q.2; omega)⟩
  have hL : LV [] 0 0 C0s I2 τ2 := ⟨CF_C f2 (by omega) (by omega), KC_same hK (fun a ha => m2 a (Nat.zero_le _) ha), by rw [(m2 1 (by omega) (by omega)).2.1]; exact hk1,
    ⟨fun a ha => (nomatch ha), by show 308 ≤ tZ τ2; omega, fun a ha _ k hl => ⟨by
      have ha : a < tZ τ2 := ha
      have := (ks _).mpr (c2.2.2.2 a ((ks a).mp (by omega)) k hl)
      show rd_R (I2, τ2) a k < tZ τ2
      omega, fun hm => (nomatch hm)⟩⟩, fun p hp => (nomatch hp), ⟨by omega, by omega⟩, iS_0⟩
  rw [b_239_1]
  refine RP_gd (by simp only [kd_mk, k70]; omega) ?_
  rw [s1, bd_ret, vl_none]
  exact L_begun (d := d) hL hP
end LS
