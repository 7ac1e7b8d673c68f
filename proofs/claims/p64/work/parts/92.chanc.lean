/-! A NEW CHANCERY -/
section C3
variable {d : Nat} {I : qq_I} {τ : qq_R}
/-- cells below z, but c, are as they were -/
def KP (c z : Nat) (I : qq_I) (τ : qq_R) (I' : qq_I) (τ' : qq_R) : Prop := ∀ a, a < z → a ≠ c → I' a = I a ∧ tK τ' a = tK τ a ∧ ∀ k, tR τ' a k = tR τ a k
theorem KP_CN {c n u z : Nat} {I' : qq_I} {τ' : qq_R} (h : CN c n u I τ I' τ') (hz : tZ τ = z) : KP c z I τ I' τ' := fun a ha hc => ⟨(h.2.2.1 a (by omega) hc).1, h.2.2.2 a (by omega), (h.2.2.1 a (by omega) hc).2⟩
theorem KP_tr {c z z' : Nat} {I1 I2 : qq_I} {τ1 τ2 : qq_R} (h : KP c z I τ I1 τ1) (h2 : KP c z' I1 τ1 I2 τ2) (hz : z ≤ z') : KP c z I τ I2 τ2 := fun a ha hc => ⟨((h2 a (by omega) hc).1).trans (h a ha hc).1, ((h2 a (by omega) hc).2.1).trans (h a ha hc).2.1, fun k => ((h2 a (by omega) hc).2.2 k).trans ((h a ha hc).2.2 k)⟩
theorem KP_Tr {c z lo m : Nat} {I' : qq_I} {τ' : qq_R} (h : KP c z I τ I' τ') (h1 : c < lo) (h2 : lo + m ≤ z) : Tr lo m τ τ' := fun a ha hb => ⟨(h a (by omega) (by omega)).2.1, (h a (by omega) (by omega)).2.2⟩
theorem KP_I {c z lo m : Nat} {I' : qq_I} {τ' : qq_R} (h : KP c z I τ I' τ') (h1 : c < lo) (h2 : lo + m ≤ z) : ∀ a, lo ≤ a → a < lo + m → I' a = I a := fun a ha hb => (h a (by omega) (by omega)).1
theorem cl {c o : Nat} (h : 0 < o) : c < c + o := Nat.lt_add_of_pos_right h
theorem ca9 {c o n z : Nat} (h : o + n ≤ z) : c + o + n ≤ c + z := by omega
theorem u9 {a0 a1 a2 a3 a4 a5 a6 a7 a8 a9 : Nat} (h1 : a1 ≤ a0 + 240) (h2 : a2 ≤ a1 + 240) (h3 : a3 ≤ a2 + 240) (h4 : a4 ≤ a3 + 2040) (h5 : a5 ≤ a4 + 40) (h6 : a6 ≤ a5 + 40) (h7 : a7 ≤ a6 + 1440) (h8 : a8 ≤ a7 + 240) (h9 : a9 ≤ a8 + 40) : a9 ≤ a0 + 9000 := by omega
theorem k_129 {c : Nat} (hz : tZ τ = c + 1) (h70 : 70 ≤ c) (hk : tK τ c = (12, 0)) : ∃ I' τ', CC (d + 3) 129 [.ref c] (I, τ) = some (.inl none, (I', τ')) ∧ CN c 237 9000 I τ I' τ' ∧ CF I' τ' c := by
  obtain ⟨I1, τ1, s1, d1, a1, b1, i1, k1, l1, r1⟩ := h129_0 (d := d) (I := I) (τ := τ) (c := c) (z := c + 1) hz h70 (cl (by decide)) hk
  have z1 : tZ τ1 = c + 18 := by rw [d1.1, hz, Nat.add_assoc]
  obtain ⟨I2, τ2, s2, d2, a2, b2, i2, k2, l2, r2⟩ := h129_1 (d := d) (I := I1) (τ := τ1) (c := c) (z := c + 18) z1 h70 (cl (by decide)) k1
  have z2 : tZ τ2 = c + 35 := by rw [d2.1, z1, Nat.add_assoc]
  obtain ⟨I3, τ3, s3, d3, a3, b3, i3, k3, l3, r3⟩ := h129_2 (d := d) (I := I2) (τ := τ2) (c := c) (z := c + 35) z2 h70 (cl (by decide)) k2
  have z3 : tZ τ3 = c + 52 := by rw [d3.1, z2, Nat.add_assoc]
  have sI : RR (d + 3) 129 17 [some (.ref c)] [] (I3, τ3) = RR (d + 3) 129 20 [some (.ref c)] [] (up_2 I3 c 3 (iN 0), τ3) := by
    rw [b_129_17]
    simp only [kd_mk, k3, K0_le h70, nk_b0, and_self, gd_true, wr_I_mk]
  obtain ⟨I4, τ4, s4, d4, a4, b4, i4, k4, l4, r4⟩ := h129_4 (d := d) (I := (up_2 I3 c 3 (iN 0))) (τ := τ3) (c := c) (z := c + 52) z3 h70 (cl (by decide)) k3
  have z4 : tZ τ4 = c + 190 := by rw [d4.1, z3, Nat.add_assoc]
  obtain ⟨I5, τ5, s5, d5, a5, b5, i5, k5, l5⟩ := h129_5 (d := d) (I := I4) (τ := τ4) (c := c) (z := c + 190) z4 h70 (cl (by decide)) k4
  have z5 : tZ τ5 = c + 193 := by rw [d5.1, z4, Nat.add_assoc]
  obtain ⟨I6, τ6, s6, d6, a6, b6, i6, k6, l6⟩ := h129_6 (d := d) (I := I5) (τ := τ5) (c := c) (z := c + 193) z5 h70 (cl (by decide)) k5
  have z6 : tZ τ6 = c + 196 := by rw [d6.1, z5, Nat.add_assoc]
  obtain ⟨I7, τ7, s7, d7, a7, b7, i7, k7, l7⟩ := h129_7 (d := d) (I := I6) (τ := τ6) (c := c) (z := c + 196) z6 h70 (cl (by decide)) k6
  have z7 : tZ τ7 = c + 220 := by rw [d7.1, z6, Nat.add_assoc]
  obtain ⟨I8, τ8, s8, d8, a8, b8, i8, k8, l8, r8⟩ := h129_8 (d := d) (I := I7) (τ := τ7) (c := c) (z := c + 220) z7 h70 (cl (by decide)) k7
  have z8 : tZ τ8 = c + 236 := by rw [d8.1, z7, Nat.add_assoc]
  obtain ⟨I9, τ9, s9, d9, a9, b9, i9, k9, r9⟩ := h129_9 (d := d) (I := I8) (τ := τ8) (c := c) (z := c + 236) z8 h70 (cl (by decide)) k8
  have z9 : tZ τ9 = c + 238 := by rw [d9.1, z8, Nat.add_assoc]
  have p9 : KP c (c + 238) I9 τ9 (up_2 (up_2 (up_2 I9 c 10 m1) c 11 m1) c 12 (iN 45)) τ9 := fun a ha hc => ⟨by rw [up_c hc, up_c hc, up_c hc], rfl, fun _ => rfl⟩
  have p8 : KP c (c + 236) I8 τ8 (up_2 (up_2 (up_2 I9 c 10 m1) c 11 m1) c 12 (iN 45)) τ9 := KP_tr (KP_CN d9 z8) p9 (Nat.add_le_add_left (by decide) c)
  have p7 : KP c (c + 220) I7 τ7 (up_2 (up_2 (up_2 I9 c 10 m1) c 11 m1) c 12 (iN 45)) τ9 := KP_tr (KP_CN d8 z7) p8 (Nat.add_le_add_left (by decide) c)
  have p6 : KP c (c + 196) I6 τ6 (up_2 (up_2 (up_2 I9 c 10 m1) c 11 m1) c 12 (iN 45)) τ9 := KP_tr (KP_CN d7 z6) p7 (Nat.add_le_add_left (by decide) c)
  have p5 : KP c (c + 193) I5 τ5 (up_2 (up_2 (up_2 I9 c 10 m1) c 11 m1) c 12 (iN 45)) τ9 := KP_tr (KP_CN d6 z5) p6 (Nat.add_le_add_left (by decide) c)
  have p4 : KP c (c + 190) I4 τ4 (up_2 (up_2 (up_2 I9 c 10 m1) c 11 m1) c 12 (iN 45)) τ9 := KP_tr (KP_CN d5 z4) p5 (Nat.add_le_add_left (by decide) c)
  have p3a : KP c (c + 52) I3 τ3 (up_2 I3 c 3 (iN 0)) τ3 := fun a ha hc => ⟨up_c hc, rfl, fun _ => rfl⟩
  have p3 : KP c (c + 52) I3 τ3 (up_2 (up_2 (up_2 I9 c 10 m1) c 11 m1) c 12 (iN 45)) τ9 := KP_tr p3a (KP_tr (KP_CN d4 z3) p4 (Nat.add_le_add_left (by decide) c)) (Nat.le_refl _)
  have p2 : KP c (c + 35) I2 τ2 (up_2 (up_2 (up_2 I9 c 10 m1) c 11 m1) c 12 (iN 45)) τ9 := KP_tr (KP_CN d3 z2) p3 (Nat.add_le_add_left (by decide) c)
  have p1 : KP c (c + 18) I1 τ1 (up_2 (up_2 (up_2 I9 c 10 m1) c 11 m1) c 12 (iN 45)) τ9 := KP_tr (KP_CN d2 z1) p2 (Nat.add_le_add_left (by decide) c)
  have p0 : KP c (c + 1) I τ (up_2 (up_2 (up_2 I9 c 10 m1) c 11 m1) c 12 (iN 45)) τ9 := KP_tr (KP_CN d1 hz) p1 (Nat.add_le_add_left (by decide) c)
  have hn : tZ τ9 = tZ τ + 237 := by rw [z9, hz, Nat.add_assoc]
  have hu : tU τ9 ≤ tU τ + 9000 := u9 d1.2.1 d2.2.1 d3.2.1 d4.2.1 d5.2.1 d6.2.1 d7.2.1 d8.2.1 d9.2.1
  have kp : KP c (tZ τ) I τ (up_2 (up_2 (up_2 I9 c 10 m1) c 11 m1) c 12 (iN 45)) τ9 := by rw [hz]; exact p0
  have kall : ∀ a, a < tZ τ → tK τ9 a = tK τ a := fun a ha => by
    by_cases e : a = c
    · rw [e, k9, hk]
    · exact (kp a ha e).2.1
  refine ⟨up_2 (up_2 (up_2 I9 c 10 m1) c 11 m1) c 12 (iN 45), τ9, ?_, ⟨hn, hu, fun a ha hc => ⟨(kp a ha hc).1, (kp a ha hc).2.2⟩, kall⟩, ⟨h70, k9, ?_, ?_, ?_, ?_, ?_, ?_, ?_, ?_, b9, ?_, ?_, ?_, ?_, ?_, ?_, ?_, ?_⟩, ?_, ?_, ?_, ?_, ?_, up_at, ?_, ?_⟩
  · have nk45 : nk .char (iN 45) = True := nk_ch (by decide)
    rw [c_129, s1, s2, s3, sI, s4, s5, s6, s7, s8, s9, b_129_50]
    simp only [kd_mk, k9, K0_le h70, and_self, gd_true, wr_I_mk, b_129_53, b_129_56, b_129_59, nk45]
  · rw [a9 0 (by decide), a8 0 (by decide), a7 0 (by decide), a6 0 (by decide), a5 0 (by decide), a4 0 (by decide), a3 0 (by decide), a2 0 (by decide)]; exact b1
  · rw [a9 1 (by decide), a8 1 (by decide), a7 1 (by decide), a6 1 (by decide), a5 1 (by decide), a4 1 (by decide), a3 1 (by decide)]; exact b2
  · rw [a9 2 (by decide), a8 2 (by decide), a7 2 (by decide), a6 2 (by decide), a5 2 (by decide), a4 2 (by decide)]; exact b3
  · rw [a9 4 (by decide), a8 4 (by decide), a7 4 (by decide), a6 4 (by decide), a5 4 (by decide)]; exact b4
  · rw [a9 5 (by decide), a8 5 (by decide), a7 5 (by decide), a6 5 (by decide)]; exact b5
  · rw [a9 6 (by decide), a8 6 (by decide), a7 6 (by decide)]; exact b6
  · rw [a9 7 (by decide), a8 7 (by decide)]; exact b7
  · rw [a9 8 (by decide)]; exact b8
  · exact L_R_T l1 (KP_Tr p1 (cl (by decide)) (ca9 (by decide)))
  · exact L_R_T l2 (KP_Tr p2 (cl (by decide)) (ca9 (by decide)))
  · exact L_R_T l3 (KP_Tr p3 (cl (by decide)) (ca9 (by decide)))
  · exact L_H_T l4 (KP_Tr p4 (cl (by decide)) (ca9 (by decide)))
  · exact L_L_T l5 (KP_Tr p5 (cl (by decide)) (ca9 (by decide)))
  · exact L_D_T l6 (KP_Tr p6 (cl (by decide)) (ca9 (by decide)))
  · exact L_T_T l7 (KP_Tr p7 (cl (by decide)) (ca9 (by decide)))
  · exact L_S_T l8 (KP_Tr p8 (cl (by decide)) (ca9 (by decide))) (p8 (c + 220 + 3) (by rw [Nat.add_assoc]; exact Nat.add_lt_add_left (by decide) c) (Nat.ne_of_gt (by rw [Nat.add_assoc]; exact cl (by decide)))).2.1 (KP_Tr p8 (by rw [Nat.add_assoc]; exact cl (by decide)) (by rw [Nat.add_assoc c]; exact ca9 (by decide)))
  · exact R_R_same r1 (KP_I p1 (cl (by decide)) (ca9 (by decide)))
  · exact R_H_same r4 (KP_I p4 (cl (by decide)) (ca9 (by decide)))
  · rw [up_k (by decide), up_k (by decide), up_k (by decide), i9, i8, i7, i6, i5, i4, up_at]
  · rw [up_k (by decide), up_k (by decide), up_at]
  · rw [up_k (by decide), up_at]
  · exact BD_T r8 (KP_Tr p8 (by exact cl (by decide)) (ca9 (by decide))) (p8 (c + 221) (Nat.add_lt_add_left (by decide) c) (Nat.ne_of_gt (cl (by decide)))).1 (p8 (c + 222) (Nat.add_lt_add_left (by decide) c) (Nat.ne_of_gt (cl (by decide)))).1
  · exact BD_T r9 (KP_Tr p9 (cl (by decide)) (ca9 (by decide))) (p9 (c + 236) (Nat.add_lt_add_left (by decide) c) (Nat.ne_of_gt (cl (by decide)))).1 (p9 (c + 237) (Nat.add_lt_add_left (by decide) c) (Nat.ne_of_gt (cl (by decide)))).1
end C3
