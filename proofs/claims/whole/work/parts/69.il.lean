-- the invariant kept by the next rows (first half)
theorem il_of {s s' : Nat → Int32} (hI : Inv s') (h6 : s' 6 = s 6) (h2 : s' 2 = s 2) (h : IL s) : IL s' := by
  obtain ⟨-, w, d, a, b, c⟩ := h
  exact ⟨hI, w, d, h6.trans a, h2.trans b, c⟩
theorem il_turns {s : Nat → Int32} (h : IL s) (k c : Int32) : IL (nxTurns s k c) := by
  have h8 := h.1.1.2
  unfold nxTurns
  split
  · next hc =>
    obtain ⟨k, hk, rfl⟩ := hc.1.ex
    rw [ix_nI (by omega)]
    exact il_of (inv_kd h.1 (by omega) hc.2.ex) (pk_un (by omega)) (pk_un (by omega)) h
  · exact h
theorem il_set {s : Nat → Int32} (h : IL s) (k q v : Int32) : IL (nxSet s k q v) := by
  have h8 := h.1.1.2
  unfold nxSet
  split
  · next hc =>
    obtain ⟨k, hk, rfl⟩ := hc.1.ex
    rw [ix_nI (by omega)]
    rcases hc.2 with ⟨rfl, hv⟩ | ⟨rfl, hv⟩
    · rw [show ix (1 : Int32) = 1 from by decide, show 10 + 4 * k + 1 = 11 + 4 * k by omega]
      exact il_of (inv_pl h.1 (by omega) hv.ex) (pk_un (by omega)) (pk_un (by omega)) h
    · rw [show ix (2 : Int32) = 2 from by decide, show 10 + 4 * k + 2 = 12 + 4 * k by omega]
      exact il_of (inv_ag h.1 (by omega) hv.ex) (pk_un (by omega)) (pk_un (by omega)) h
  · exact h
theorem il_slides {s : Nat → Int32} (h : IL s) (w : Int32) : IL (nxSlides s w) := by
  have h14 := h.1.2.1.2
  unfold nxSlides
  split
  · next hc =>
    obtain ⟨w, hw, rfl⟩ := hc.ex
    rw [ix_nI (by omega)]
    refine il_of (inv_sd h.1 (by omega) ?_) (pk_un (by omega)) (pk_un (by omega)) h
    split
    · exact Or.inl rfl
    · exact Or.inr rfl
  · exact h
theorem il_seed {s : Nat → Int32} (h : IL s) (v : Int32) : IL (nxSeed s v) := il_of (inv_sc h.1 v (by omega)) (pk_un (by decide)) (pk_un (by decide)) h
theorem il_days {s : Nat → Int32} (h : IL s) (n : Int32) : IL (nxDays s n) := by
  unfold nxDays
  split
  · obtain ⟨hI, w, d, a, b, c, e⟩ := h
    rw [b, ix_nI (by omega)]
    obtain ⟨g1, v, g2, g3⟩ := dys_26 hI a b (min (9999 - d) (ix n))
    have hm : min (9999 - d) (ix n) ≤ 9999 - d := Nat.min_le_left _ _
    exact ⟨inv_dys hI _, v, _, g2, g1, by omega, by omega⟩
  · exact h
theorem xor_bits {s : Nat → Int32} (hI : Inv s) {k w : Nat} (hk : k < np s) (hw : w < nw s) : ∀ j, bt (sk s k ^^^ ((1 : Int32) <<< (nI w &&& 31))) j = true → j < nw s := by
  have h14 := hI.2.1.2
  intro j hj
  rw [b_xor] at hj
  by_cases e : bt (sk s k) j = true
  · exact (hI.2.2.2.1 k hk).2.2.2 j e
  · rw [Bool.not_eq_true] at e
    rw [e, Bool.false_xor, bt_one (by omega), decide_eq_true_eq] at hj
    omega
theorem il_ink {s : Nat → Int32} (h : IL s) (k w : Int32) : IL (nxInk s k w) := by
  have h8 := h.1.1.2
  have h14 := h.1.2.1.2
  unfold nxInk
  split
  · next hc =>
    obtain ⟨k, hk, rfl⟩ := hc.1.ex
    obtain ⟨w, hw, rfl⟩ := hc.2.ex
    rw [ix_nI (show k < 2 ^ 31 by omega)]
    split
    · exact h
    · exact il_of (inv_sk h.1 (by omega) (xor_bits h.1 hk hw)) (pk_un (by omega)) (pk_un (by omega)) h
  · exact h
theorem il_scar {s : Nat → Int32} (h : IL s) (k w : Int32) : IL (nxScar s k w) := by
  have h8 := h.1.1.2
  have h14 := h.1.2.1.2
  unfold nxScar
  split
  · next hc =>
    obtain ⟨k, hk, rfl⟩ := hc.1.ex
    obtain ⟨w, hw, rfl⟩ := hc.2.ex
    rw [ix_nI (show k < 2 ^ 31 by omega)]
    split
    · exact il_of (inv_sk h.1 (by omega) (xor_bits h.1 hk hw)) (pk_un (by omega)) (pk_un (by omega)) h
    · exact h
  · exact h
