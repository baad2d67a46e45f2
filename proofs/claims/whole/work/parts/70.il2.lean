-- the invariant kept by the next rows (second half)
theorem il_one {s : Nat → Int32} (h : IL s) (k p a : Int32) : IL (nxOne s k p a) := by
  have h8 := h.1.1.2
  unfold nxOne
  split
  · next hc =>
    have hI := inv_ad h.1 (k := k) (p := p) (a := a) (x := 0) (by omega) hc.1.1.ex hc.1.2.1.ex hc.1.2.2.ex (fun j hj => absurd hj (bt_z j))
    refine il_of hI ?_ ?_ h <;> unfold adS <;> rw [pk_un (by omega), pk_un (by omega), pk_un (by omega), pk_un (by omega), pk_un (by omega)]
  · exact h
theorem dw_n (s : Nat → Int32) {j : Nat} (h0 : j ≠ 0) (h9 : j < 9) : dwS s j = s j := by
  unfold dwS
  rw [pk_un (by omega), pk_un (by omega), pk_un (by omega), pk_un (by omega), pk_un (by omega), d4_n s (by omega)]
theorem dl_n (s : Nat → Int32) {j : Nat} (h0 : j ≠ 0) (h9 : j < 9) : ∀ i, dlS s i j = s j
  | 0 => rfl
  | i + 1 => by rw [dl_s, dw_n _ h0 h9]; exact dl_n s h0 h9 i
theorem il_deal {s : Nat → Int32} (h : IL s) (n : Int32) : IL (nxDeal s n) := by
  have h8 := h.1.1.2
  unfold nxDeal
  split
  · have hm : min (8 - np s) (ix n) ≤ 8 - np s := Nat.min_le_left _ _
    exact il_of (inv_dl h.1 _ (by omega)).1 (dl_n s (by decide) (by decide) _) (dl_n s (by decide) (by decide) _) h
  · exact h
theorem inv_wy {s : Nat → Int32} (h : Inv s) (h14 : nw s < 14) {f t : Nat} (hf : f < 10) (ht : t < 10) : Inv (wyS s (nI f) (nI t)) := by
  have h8 := h.1.2
  have lo : ∀ j, j ≠ 3 → j < 42 ∨ 84 ≤ j → wyS s (nI f) (nI t) j = s j := by
    intro j h3 hj
    unfold wyS
    rw [pk_un (by omega), pk_un (by omega), pk_un (by omega), pk_un (by omega)]
  have n3 : wyS s (nI f) (nI t) 3 = nI (nw s + 1) := by
    unfold wyS
    rw [pk_un (by omega), pk_un (by omega), pk_un (by omega), pk_us, h.2.1.1, p1]
  have ew : nw (wyS s (nI f) (nI t)) = nw s + 1 := by show ix (wyS s (nI f) (nI t) 3) = _; rw [n3, ix_nI (by omega)]
  have en : np (wyS s (nI f) (nI t)) = np s := by show ix (wyS s (nI f) (nI t) 0) = ix (s 0); rw [lo 0 (by decide) (by omega)]
  refine ⟨⟨by rw [en, lo 0 (by decide) (by omega)]; exact h.1.1, by rw [en]; exact h8⟩, ⟨by rw [ew, n3], by rw [ew]; omega⟩, ti_cong (lo 1 (by decide) (by omega)) (fun j hj => lo j (by omega) (by omega)) h.2.2.1, fun k hk => ?_, fun w hw => ?_⟩
  · rw [en] at hk
    rw [ew]
    have c0 : kd (wyS s (nI f) (nI t)) k = kd s k := lo _ (by omega) (by omega)
    have c1 : pl (wyS s (nI f) (nI t)) k = pl s k := lo _ (by omega) (by omega)
    have c2 : ag (wyS s (nI f) (nI t)) k = ag s k := lo _ (by omega) (by omega)
    have c3 : sk (wyS s (nI f) (nI t)) k = sk s k := lo _ (by omega) (by omega)
    rw [c0, c1, c2, c3]
    obtain ⟨q1, q2, q3, q4⟩ := h.2.2.2.1 k hk
    exact ⟨q1, q2, q3, fun j hj => by have := q4 j hj; omega⟩
  · rw [ew] at hw
    by_cases e : w = nw s
    · subst e
      have c0 : fr (wyS s (nI f) (nI t)) (nw s) = nI f := by
        show wyS s (nI f) (nI t) (42 + 3 * nw s) = _
        unfold wyS; rw [pk_un (by omega), pk_un (by omega), pk_us]
      have c1 : tt (wyS s (nI f) (nI t)) (nw s) = nI t := by
        show wyS s (nI f) (nI t) (43 + 3 * nw s) = _
        unfold wyS; rw [pk_un (by omega), pk_us]
      have c2 : sd (wyS s (nI f) (nI t)) (nw s) = 1 := by
        show wyS s (nI f) (nI t) (44 + 3 * nw s) = _
        unfold wyS; rw [pk_us]
      rw [c0, c1, c2]
      exact ⟨⟨f, hf, rfl⟩, ⟨t, ht, rfl⟩, Or.inr rfl⟩
    · have lw : ∀ i, 42 + 3 * w ≤ i → i < 45 + 3 * w → wyS s (nI f) (nI t) i = s i := by
        intro i h1 h2
        unfold wyS
        rw [pk_un (by omega), pk_un (by omega), pk_un (by omega), pk_un (by omega)]
      have c0 : fr (wyS s (nI f) (nI t)) w = fr s w := lw _ (by omega) (by omega)
      have c1 : tt (wyS s (nI f) (nI t)) w = tt s w := lw _ (by omega) (by omega)
      have c2 : sd (wyS s (nI f) (nI t)) w = sd s w := lw _ (by omega) (by omega)
      rw [c0, c1, c2]
      exact h.2.2.2.2 w (by omega)
theorem il_way {s : Nat → Int32} (h : IL s) (f t : Int32) : IL (nxWay s f t) := by
  have h14 := h.1.2.1.2
  unfold nxWay
  split
  · next hc =>
    obtain ⟨f, hf, rfl⟩ := hc.1.ex
    obtain ⟨t, ht, rfl⟩ := hc.2.1.ex
    split
    · exact h
    · refine il_of (inv_wy h.1 (by omega) hf ht) ?_ ?_ h <;> unfold wyS <;> rw [pk_un (by omega), pk_un (by omega), pk_un (by omega), pk_un (by omega)]
  · exact h
theorem inv_45 {s : Nat → Int32} (h : Inv s) {i : Nat} (hi : i = 4 ∨ i = 5) (v : Int32) : Inv (upd s i v) := by
  have lo : ∀ j, j ≠ i → upd s i v j = s j := fun j hj => pk_un hj
  have en : np (upd s i v) = np s := by show ix (upd s i v 0) = ix (s 0); rw [lo 0 (by omega)]
  have ew : nw (upd s i v) = nw s := by show ix (upd s i v 3) = ix (s 3); rw [lo 3 (by omega)]
  refine ⟨⟨by rw [en, lo 0 (by omega)]; exact h.1.1, by rw [en]; exact h.1.2⟩, ⟨by rw [ew, lo 3 (by omega)]; exact h.2.1.1, by rw [ew]; exact h.2.1.2⟩, ti_cong (lo 1 (by omega)) (fun j hj => lo j (by omega)) h.2.2.1, fun j hj => ?_, fun w hw => ?_⟩
  · rw [en] at hj
    rw [ew]
    have c0 : kd (upd s i v) j = kd s j := lo _ (by omega)
    have c1 : pl (upd s i v) j = pl s j := lo _ (by omega)
    have c2 : ag (upd s i v) j = ag s j := lo _ (by omega)
    have c3 : sk (upd s i v) j = sk s j := lo _ (by omega)
    rw [c0, c1, c2, c3]
    exact h.2.2.2.1 j hj
  · rw [ew] at hw
    have c0 : fr (upd s i v) w = fr s w := lo _ (by omega)
    have c1 : tt (upd s i v) w = tt s w := lo _ (by omega)
    have c2 : sd (upd s i v) w = sd s w := lo _ (by omega)
    rw [c0, c1, c2]
    exact h.2.2.2.2 w hw
theorem il_rule {s : Nat → Int32} (h : IL s) (i v : Int32) : IL (nxRule s i v) := by
  unfold nxRule
  split
  · next hc =>
    rcases hc.1 with rfl | rfl
    · rw [show 4 + ix (0 : Int32) = 4 from by decide]
      exact il_of (inv_45 h.1 (Or.inl rfl) v) (pk_un (by decide)) (pk_un (by decide)) h
    · rw [show 4 + ix (1 : Int32) = 5 from by decide]
      exact il_of (inv_45 h.1 (Or.inr rfl) v) (pk_un (by decide)) (pk_un (by decide)) h
  · exact h
