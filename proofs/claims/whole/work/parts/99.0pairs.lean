-- what a row of the land's leaves of the texts
def Tx (s s' : Nat → Int32) : Prop := s' 1 = s 1 ∧ ∀ j, 84 ≤ j → s' j = s j
theorem Tx.rf (s : Nat → Int32) : Tx s s := ⟨rfl, fun _ _ => rfl⟩
theorem Tx.up {s s' : Nat → Int32} (h : Tx s s') {i : Nat} (hi : i ≠ 1) (h2 : i < 84) (v : Int32) : Tx s (upd s' i v) := ⟨(pk_un (Ne.symm hi)).trans h.1, fun j hj => (pk_un (by omega)).trans (h.2 j hj)⟩
theorem Tx.tr {s s' s2 : Nat → Int32} (h : Tx s s') (g : Tx s' s2) : Tx s s2 := ⟨g.1.trans h.1, fun j hj => (g.2 j hj).trans (h.2 j hj)⟩
theorem ix_rg {n : Nat} {v : Int32} (h : Rg n v) (hn : n ≤ 1000) : ix v < n := by
  obtain ⟨a, ha, rfl⟩ := h.ex
  rw [ix_nI (by omega)]
  exact ha
theorem tx_one {s : Nat → Int32} (h : IL s) (k p a : Int32) : Tx s (nxOne s k p a) := by
  have h8 := h.1.1.2
  unfold nxOne
  split
  · unfold adS
    exact ((((Tx.rf s).up (by omega) (by omega) _).up (by omega) (by omega) _).up (by omega) (by omega) _).up (by omega) (by omega) _ |>.up (by omega) (by omega) _
  · exact Tx.rf s
theorem tx_way {s : Nat → Int32} (h : IL s) (f t : Int32) : Tx s (nxWay s f t) := by
  have h14 := h.1.2.1.2
  unfold nxWay
  split
  · split
    · exact Tx.rf s
    · unfold wyS
      exact (((Tx.rf s).up (by omega) (by omega) _).up (by omega) (by omega) _).up (by omega) (by omega) _ |>.up (by omega) (by omega) _
  · exact Tx.rf s
theorem tx_turns {s : Nat → Int32} (h : IL s) (k c : Int32) : Tx s (nxTurns s k c) := by
  have h8 := h.1.1.2
  unfold nxTurns
  split
  · next hc =>
    have := ix_rg hc.1 (by omega)
    exact (Tx.rf s).up (by omega) (by omega) _
  · exact Tx.rf s
theorem tx_set {s : Nat → Int32} (h : IL s) (k q v : Int32) : Tx s (nxSet s k q v) := by
  have h8 := h.1.1.2
  unfold nxSet
  split
  · next hc =>
    have := ix_rg hc.1 (by omega)
    have h2 : ix q ≤ 2 := by
      rcases hc.2 with ⟨rfl, -⟩ | ⟨rfl, -⟩ <;> decide
    exact (Tx.rf s).up (by omega) (by omega) _
  · exact Tx.rf s
theorem tx_slides {s : Nat → Int32} (h : IL s) (w : Int32) : Tx s (nxSlides s w) := by
  have h14 := h.1.2.1.2
  unfold nxSlides
  split
  · next hc =>
    have := ix_rg hc (by omega)
    exact (Tx.rf s).up (by omega) (by omega) _
  · exact Tx.rf s
theorem tx_seed {s : Nat → Int32} (v : Int32) : Tx s (nxSeed s v) := (Tx.rf s).up (by omega) (by omega) _
theorem tx_rule {s : Nat → Int32} (i v : Int32) : Tx s (nxRule s i v) := by
  unfold nxRule
  split
  · next hc =>
    have : ix i ≤ 1 := by rcases hc.1 with rfl | rfl <;> decide
    exact (Tx.rf s).up (by omega) (by omega) _
  · exact Tx.rf s
theorem tx_ink {s : Nat → Int32} (h : IL s) (k w : Int32) : Tx s (nxInk s k w) := by
  have h8 := h.1.1.2
  unfold nxInk
  split
  · next hc =>
    have := ix_rg hc.1 (by omega)
    split
    · exact Tx.rf s
    · exact (Tx.rf s).up (by omega) (by omega) _
  · exact Tx.rf s
theorem tx_scar {s : Nat → Int32} (h : IL s) (k w : Int32) : Tx s (nxScar s k w) := by
  have h8 := h.1.1.2
  unfold nxScar
  split
  · next hc =>
    have := ix_rg hc.1 (by omega)
    split
    · exact (Tx.rf s).up (by omega) (by omega) _
    · exact Tx.rf s
  · exact Tx.rf s
theorem tx_days {s : Nat → Int32} (h : IL s) (n : Int32) : Tx s (nxDays s n) := by
  unfold nxDays
  split
  · have hk := dys_keep h.1.1 h.1.2.1 (min (9999 - ix (s 2)) (ix n))
    exact ⟨hk.2.1, hk.2.2.2.2.2.1⟩
  · exact Tx.rf s
theorem tx_dw {s : Nat → Int32} (h8 : np s < 8) : Tx s (dwS s) := by
  have h0 : Tx s (d4S s) := ⟨d4_n s (by omega), fun j hj => d4_n s (by omega)⟩
  unfold dwS
  exact (((h0.up (by omega) (by omega) _).up (by omega) (by omega) _).up (by omega) (by omega) _).up (by omega) (by omega) _ |>.up (by omega) (by omega) _
theorem tx_dl {s : Nat → Int32} (h : Inv s) : ∀ i, np s + i ≤ 8 → Tx s (dlS s i)
  | 0, _ => Tx.rf s
  | i + 1, hi => by
    rw [dl_s]
    exact (tx_dl h i (by omega)).tr (tx_dw (by rw [(inv_dl h i (by omega)).2]; omega))
theorem tx_deal {s : Nat → Int32} (h : IL s) (n : Int32) : Tx s (nxDeal s n) := by
  have h8 := h.1.1.2
  unfold nxDeal
  split
  · exact tx_dl h.1 _ (by omega)
  · exact Tx.rf s
theorem tx_pour {M : Mem} (h : IL (M 101)) (k : Int32) : Tx (M 101) (nxPour M k) := ⟨pour_n h k (by omega), fun j hj => pour_n h k (by omega)⟩
-- answers that read the model's cells
theorem re_hi {M M' : Mem} (h : ∀ k, 100 ≤ k → M' k = M k) (k : Nat) : ∀ f i, reF M' k i f = reF M k i f
  | 0, i => rfl
  | f + 1, i => by
    rw [re_s, re_s, h 106 (by decide), h 101 (by decide), re_hi h k f (i + 1)]
theorem count_hi {M M' : Mem} (h : ∀ k, 100 ≤ k → M' k = M k) (q : Int32) : anCount M' q = anCount M q := by
  unfold anCount
  rw [h 101 (by decide), h 100 (by decide)]
theorem rest_hi {M M' : Mem} (h : ∀ k, 100 ≤ k → M' k = M k) (k v : Int32) : anRest M' k v = anRest M k v := by
  unfold anRest
  rw [h 107 (by decide), h 108 (by decide)]
theorem item_hi {M M' : Mem} (h : ∀ k, 100 ≤ k → M' k = M k) (k v : Int32) : anItem M' k v = anItem M k v := by
  unfold anItem
  rw [h 107 (by decide), h 110 (by decide), h 111 (by decide)]
theorem reads_hi {M M' : Mem} (h : ∀ k, 100 ≤ k → M' k = M k) (k : Int32) : anReads M' k = anReads M k := by
  unfold anReads
  rw [h 104 (by decide), h 105 (by decide), re_hi h]
theorem ask_hi {M M' : Mem} (h : ∀ k, 100 ≤ k → M' k = M k) (k c : Int32) : anAsk M' k c = anAsk M k c := by
  unfold anAsk
  rw [h 107 (by decide), h 108 (by decide), h 109 (by decide)]
theorem rw_hi {M M' : Mem} (h : ∀ k, 100 ≤ k → M' k = M k) (k : Nat) : rwS M' k = rwS M k := by
  funext i
  show M' 106 _ = M 106 _
  rw [h 106 (by decide)]
theorem like_hi {M M' : Mem} (h : ∀ k, 100 ≤ k → M' k = M k) (k q : Int32) : anLike M' k q = anLike M k q := by
  unfold anLike
  rw [rw_hi h, h 101 (by decide), h 104 (by decide), h 105 (by decide)]
theorem im_hi {M M' : Mem} (h : ∀ k, 100 ≤ k → M' k = M k) : imS M' = imS M := by
  unfold imS
  rw [h 101 (by decide), h 102 (by decide)]
theorem check_hi {M M' : Mem} (h : ∀ k, 100 ≤ k → M' k = M k) (v : Int32) : anCheck M' v = anCheck M v := by
  unfold anCheck lsS
  rw [im_hi h, h 100 (by decide), h 118 (by decide)]
theorem mn_hi {M M' : Mem} (h : ∀ k, 100 ≤ k → M' k = M k) (k : Nat) : mnS M' k = mnS M k := by
  show (if ix (M' 105 k) ≤ np (M' 101) then ix (M' 105 k) else np (M' 101)) = _
  rw [h 101 (by decide), h 105 (by decide)]
theorem pour_hi {M M' : Mem} (h : ∀ k, 100 ≤ k → M' k = M k) (k : Int32) : anPour M' k = anPour M k ∧ nxPour M' k = nxPour M k := by
  unfold anPour nxPour
  rw [rw_hi h, mn_hi h, h 101 (by decide), h 104 (by decide)]
  exact ⟨rfl, rfl⟩
theorem sc_hi {M M' : Mem} (h : Ag scX M M') : ∀ k, 100 ≤ k → M' k = M k := fun k hk => h k (by simp [scX]; omega)
