/-! WHAT THE CLASS ANSWERS, within its bounds -/
theorem inN_t {k n : Nat} (h : k < n) (hn : n < 1000000) : inN n (iN k) = true := (inN_iff hn).mpr ⟨k, h, rfl⟩
theorem inB_t {lo hi k : Nat} (h1 : lo ≤ k) (h2 : k ≤ hi) (hh : hi < 1000000) : inB lo hi (iN k) = true := (inB_iff hh (by omega)).mpr ⟨k, h1, h2, rfl⟩
section QT
variable {S : sS} {B k n : Nat} {x y : Int32} {f : Nat → Int32}
theorem qt_arrow (hw : wS B S) (hk : k < p_np (s_P S)) : q_arrow S (iN k) = .inl (iN (p_ar (s_P S) k)) := by
  have := hw.2.1.1
  unfold q_arrow
  rw [if_pos (inN_t hk (by omega)), tn_iN (by omega)]
theorem qt_after (hw : wS B S) (hk : k < p_np (s_P S)) (hn : n ≤ 9999) : q_after S (iN k) (iN n) = .inl (iN (it (p_ar (s_P S)) n k)) := by
  have := hw.2.1.1
  unfold q_after
  rw [if_pos (inN_t hk (by omega)), if_pos (inB_t (Nat.zero_le _) hn (by omega)), tn_iN (by omega), tn_iN (by omega)]
theorem qt_round (hw : wS B S) (hk : k < p_np (s_P S)) : q_round S (iN k) = .inl (iN (rlen (s_P S) k)) := by
  have := hw.2.1.1
  unfold q_round
  rw [if_pos (inN_t hk (by omega)), tn_iN (by omega)]
theorem qt_free (hw : wS B S) (hk : k < p_np (s_P S)) : q_isFree S (iN k) = .inl (b01 (onP (s_P S) k).isNone) := by
  have := hw.2.1.1
  unfold q_isFree
  rw [if_pos (inN_t hk (by omega)), tn_iN (by omega)]
theorem qt_on (hw : wS B S) (hk : k < p_np (s_P S)) : q_statueOn S (iN k) = qE (onP (s_P S) k) := by
  have := hw.2.1.1
  unfold q_statueOn
  rw [if_pos (inN_t hk (by omega)), tn_iN (by omega)]
theorem qt_sta (hw : wS B S) (hk : k < p_ns (s_P S)) : q_sta f S (iN k) = .inl (f k) := by
  have := hw.2.1.2.1
  unfold q_sta
  rw [if_pos (inN_t hk (by omega)), tn_iN (by omega)]
theorem qt_writAt (hw : wS B S) (hk : k < un (s_U S)) : q_writAt S (iN k) = .inl (iN (w_id (ug (s_U S) k))) := by
  have := hw.2.2.1.1
  unfold q_writAt
  rw [if_pos (inN_t hk (by omega)), tn_iN (by omega)]
theorem id_bd (hw : wS B S) (hk : k < un (s_U S)) : w_id (ug (s_U S) k) < 1000000 := by
  have h1 := (hw.2.2.1.2.2.2 k hk).1
  have h2 := hw.2.2.1.2.1
  omega
theorem fi_id (hw : wS B S) (hk : k < un (s_U S)) : fiX (s_U S) (iN (w_id (ug (s_U S) k))) = some k := by
  rw [fiX_iN hw.2.2.1 (by have := id_bd hw hk; omega), fi_at hw.2.2.1 hk]
theorem qt_wr (hw : wS B S) (hk : k < un (s_U S)) : q_wr f S (iN (w_id (ug (s_U S) k))) = .inl (f k) := by
  unfold q_wr
  rw [fi_id hw hk]
theorem qt_cause (hw : wS B S) (hk : k < un (s_U S)) : q_cause S (iN (w_id (ug (s_U S) k))) = if w_ca (ug (s_U S) k) = 0 then .inr 3 else .inl (iN (w_ca (ug (s_U S) k) - 1)) := by
  unfold q_cause
  rw [fi_id hw hk]
theorem qt_blocks (h1 : 1 ≤ k) (h2 : k ≤ 20) : q_blocks S (iN k) = .inl (iN (m_bl (s_M S) k)) := by
  unfold q_blocks
  rw [if_pos (inB_t h1 h2 (by omega)), tn_iN (by omega)]
theorem qi_on : qin [0, 3] (q_statueOn S x) := by
  unfold q_statueOn
  split
  · unfold qE
    split
    · exact (show (3 : Nat) ∈ [0, 3] by decide)
    · trivial
  · exact (show (0 : Nat) ∈ [0, 3] by decide)
theorem qi_byWeight : qin [3] (q_byWeight S x) := by
  unfold q_byWeight
  split
  · trivial
  · exact (show (3 : Nat) ∈ [3] by decide)
theorem qi_nights : qin [0, 3] (q_nights S x) := by
  unfold q_nights
  split
  · split
    · exact (show (3 : Nat) ∈ [0, 3] by decide)
    · trivial
  · exact (show (0 : Nat) ∈ [0, 3] by decide)
theorem qi_writAt : qin [3] (q_writAt S x) := by
  unfold q_writAt
  split
  · trivial
  · exact (show (3 : Nat) ∈ [3] by decide)
theorem qi_cause : qin [3] (q_cause S x) := by
  unfold q_cause
  split
  · exact (show (3 : Nat) ∈ [3] by decide)
  · split
    · exact (show (3 : Nat) ∈ [3] by decide)
    · trivial
theorem qi_wr : qin [3] (q_wr f S x) := by
  unfold q_wr
  split
  · exact (show (3 : Nat) ∈ [3] by decide)
  · trivial
theorem qi_byLast : qin [3] (q_byLast S x) := by
  unfold q_byLast
  split
  · trivial
  · exact (show (3 : Nat) ∈ [3] by decide)
theorem qi_fewest : qin [1, 4] (q_fewest S x) := by
  unfold q_fewest
  split
  · split
    · exact (show (4 : Nat) ∈ [1, 4] by decide)
    · trivial
  · exact (show (1 : Nat) ∈ [1, 4] by decide)
end QT
theorem er_neg : ∀ k, k < 10 → er k < iN 0 := by decide
theorem b01_eq (p : Bool) : (b01 p = iN 0) = (p = false) := by
  cases p
  · exact (eq_true rfl).trans (eq_true rfl).symm
  · exact (eq_false (by decide)).trans (eq_false (by decide)).symm
