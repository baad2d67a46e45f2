-- inks, becomes
def ikU (s : Nat → Int32) (k i : Nat) : Nat → Int32 := upd s (13 + 4 * k) (sk s k ||| ((1 : Int32) <<< (nI i &&& 31)))
def wkI (s : Nat → Int32) (k n i : Nat) : Int32 := dysS n (ikU s k i) 6
def ikS (s : Nat → Int32) (k n : Nat) : Nat → Int32 × Int32
  | 0 => (-1, -1)
  | i + 1 => if wkI s k n i ≤ (ikS s k n i).2 then ikS s k n i else (nI i, wkI s k n i)
def stX (s : Nat → Int32) (k n : Nat) (i : Nat) : Int32 × Int32 := if i = 0 then (-1000000005, -1000000005) else ikS s k n i
theorem ik_s (s : Nat → Int32) (k n i : Nat) : ikS s k n (i + 1) = if wkI s k n i ≤ (ikS s k n i).2 then ikS s k n i else (nI i, wkI s k n i) := rfl
theorem inv_ik {s : Nat → Int32} (h : Inv s) {k i : Nat} (hk : k < np s) (hi : i < nw s) : Inv (ikU s k i) := by
  have h8 := h.1.2
  have h14 := h.2.1.2
  refine inv_sk h (by omega) (fun j hj => ?_)
  rw [b_or, bt_one (by omega), Bool.or_eq_true, decide_eq_true_eq] at hj
  rcases hj with hj | hj
  · exact (h.2.2.2.1 k hk).2.2.2 j hj
  · omega
theorem wk_is {s : Nat → Int32} (h : IL s) {k i n : Nat} (hk : k < np s) (hi : i < nw s) (hn : n ≤ 60) : ∃ v, v < 2 ^ 20 ∧ wkI s k n i = nI v := by
  obtain ⟨hI, w, dd, e6, e2, h9, hw⟩ := h
  obtain ⟨-, v, h1, h2⟩ := dys_26 (inv_ik hI hk hi) (w := w) (dd := dd) (by unfold ikU; rw [pk_un (by omega)]; exact e6) (by unfold ikU; rw [pk_un (by omega)]; exact e2) n
  exact ⟨v, by omega, h1⟩
theorem nle_m1 {v : Nat} (h : v < 2 ^ 30) : ¬ nI v ≤ -1 := by rw [tle, tnI (by omega), show (-1 : Int32).toInt = -1 from rfl]; omega
theorem nle_no {v : Nat} (h : v < 2 ^ 30) : ¬ nI v ≤ -1000000005 := by rw [tle, tnI (by omega), show (-1000000005 : Int32).toInt = -1000000005 from rfl]; omega
theorem st_s {s : Nat → Int32} (h : IL s) {k i n : Nat} (hk : k < np s) (hi : i < nw s) (hn : n ≤ 60) : stX s k n (i + 1) = if wkI s k n i ≤ (stX s k n i).2 then stX s k n i else (nI i, wkI s k n i) := by
  unfold stX
  rw [if_neg (by omega), ik_s]
  obtain ⟨v, hv, e⟩ := wk_is h hk hi hn
  by_cases q : i = 0
  · rw [if_pos q]
    subst q
    show (if wkI s k n 0 ≤ -1 then _ else _) = if wkI s k n 0 ≤ -1000000005 then _ else _
    rw [e, if_neg (nle_m1 (by omega)), if_neg (nle_no (by omega))]
  · rw [if_neg q]
theorem ik_pos {s : Nat → Int32} (h : IL s) {k n : Nat} (hk : k < np s) (hn : n ≤ 60) : ∀ i, i + 1 ≤ nw s → 0 ≤ (ikS s k n (i + 1)).1
  | 0, hi => by
    rw [ik_s]
    obtain ⟨v, hv, e⟩ := wk_is h hk (i := 0) (by omega) hn
    show 0 ≤ (if wkI s k n 0 ≤ -1 then _ else _ : Int32 × Int32).1
    rw [e, if_neg (nle_m1 (by omega))]
    exact (by decide : (0 : Int32) ≤ nI 0)
  | i + 1, hi => by
    have h14 := h.1.2.1.2
    have ih := ik_pos h hk hn i (by omega)
    rw [ik_s]
    split
    · exact ih
    · show 0 ≤ nI (i + 1)
      exact zl _ (by omega)
def bcU (s : Nat → Int32) (k i : Nat) : Nat → Int32 := upd s (10 + 4 * k) (nI i)
def bkI (s : Nat → Int32) (k n i : Nat) : Int32 := pcI (brS (dysS n (bcU s k i)) (mk (np (dysS n (bcU s k i)))))
def bcS (s : Nat → Int32) (k n : Nat) : Nat → Int32 × Int32
  | 0 => (0, -1)
  | i + 1 => if bkI s k n i ≤ (bcS s k n i).2 then bcS s k n i else (nI i, bkI s k n i)
theorem bc_s (s : Nat → Int32) (k n i : Nat) : bcS s k n (i + 1) = if bkI s k n i ≤ (bcS s k n i).2 then bcS s k n i else (nI i, bkI s k n i) := rfl
theorem inv_bc {s : Nat → Int32} (h : Inv s) {k i : Nat} (hk : k < 8) (hi : i < 6) : Inv (bcU s k i) := inv_kd h hk ⟨i, hi, rfl⟩
section
variable {l : Launch} {G : GT} {D : Nat} {M : Mem} {R : Option Value → Mem → Prop} {b : Nat} {s : Nat → Int32}
def anInks (s : Nat → Int32) (k n q : Int32) : Int32 := if Rg (np s) k ∧ (1 ≤ n.toInt ∧ n.toInt ≤ 60) ∧ (q = 0 ∨ q = 1) then (if nw s = 0 then (-1000000005) else if q = 0 then (ikS s (ix k) (ix n) (nw s)).1 else (ikS s (ix k) (ix n) (nw s)).2) else (-1000000001)
theorem X_inks {k n q : Int32} (hD : 36 ≤ D) (hRel : Rel M) (hR : ∀ M', Ag scX M M' → R (some (.int (anInks (M 101) k n q))) M') : Tr l G D mX7_inks [.ref (G.1 0), .int k, .int n, .int q] M R := by
  obtain ⟨d, rfl⟩ := dE (show 4 ≤ D by omega)
  have hL := hRel.1.1.1
  have hI := hRel.2.1.1
  have n1 : M 30 1 = nI (np (M 101)) := hL.1.1.trans hI.1.1
  have n6 : M 30 6 = nI (nw (M 101)) := hL.1.2.1.trans hI.2.1.1
  have hp := hI.1.2
  have hw := hI.2.1.2
  have hW := hI.2.1
  unfold anInks at hR
  by_cases hc : Rg (np (M 101)) k ∧ (1 ≤ n.toInt ∧ n.toInt ≤ 60) ∧ (q = 0 ∨ q = 1)
  · simp only [if_pos hc] at hR
    obtain ⟨k, hk, rfl⟩ := hc.1.ex
    have xk := ix_nI (show k < 2 ^ 31 by omega)
    obtain ⟨n, hn, rfl⟩ := (show Rg 61 n from ⟨by have := hc.2.1.1; omega, by have := hc.2.1.2; omega⟩).ex
    have xn := ix_nI (show n < 2 ^ 31 by omega)
    try simp only [xk, xn] at hR
    have lb : IsLd 40 := Or.inr (Or.inl rfl)
    have hIL := hRel.2.1
    have loop : ∀ i, i ≤ nw (M 101) → ∀ M', Ag scX M M' → At l G (d + 4) mX7_inks 42 [some (.ref (G.1 0)), some (.int (nI k)), some (.int (nI n)), some (.int q), some (.int (stX (M 101) k n i).1), some (.int (stX (M 101) k n i).2), some (.int (nI i))] [] M' R := by
      refine upL (fun i => ∀ M', Ag scX M M' → At l G (d + 4) mX7_inks 42 [some (.ref (G.1 0)), some (.int (nI k)), some (.int (nI n)), some (.int q), some (.int (stX (M 101) k n i).1), some (.int (stX (M 101) k n i).2), some (.int (nI i))] [] M' R) (nw (M 101)) ?_ ?_
      · intro M' hA
        have hR2 := hR M' hA
        refine bX7_inks_42 ⟨fun _ => ?_, fun h => absurd (by rw [hA 30 (by decide), n6, le_nI (by omega) (by omega)]; exact Nat.le_refl _) h⟩
        unfold stX
        by_cases h0 : nw (M 101) = 0
        · rw [if_pos h0] at hR2 ⊢
          exact ⟨fun _ => hR2, fun _ => hR2⟩
        · rw [if_neg h0] at hR2 ⊢
          exact ⟨fun h => by rw [if_pos h] at hR2; exact hR2, fun h => by rw [if_neg h] at hR2; exact hR2⟩
      · intro i hi ih M' hA
        have hX0 : XS M' 30 (M 101) := by
          refine ⟨hL.of (fun j hj => hA _ (by simp only [scX, List.mem_cons, List.not_mem_nil, or_false]; omega)), hI, fun t ht => ?_⟩
          have h14 := hI.2.2.1.2.1
          have hlw := hRel.1.1.2 t ht
          unfold LW at hlw ⊢
          rw [hA 3 (by decide), hA 4 (by decide), hA 5 (by decide), hA (7 + t) (by simp only [scX, List.mem_cons, List.not_mem_nil, or_false]; omega)]
          exact hlw
        refine bX7_inks_42 ⟨fun h => absurd h (by rw [hA 30 (by decide), n6, le_nI (by omega) (by omega)]; omega), fun _ => ?_⟩
        refine sX1_take lb ld30 (by decide) (by omega) hX0.1 (fun M1 hA1 hL1 => kV_i (bX7_inks_65 ⟨vpn (by omega) (by decide), vpn (by omega) (by decide), fun M2 e2 => ?_⟩))
        have l4 : M1 44 k = sk (M 101) k := hL1.2.2.2.2.1 k (by omega)
        rw [xk, l4] at e2
        have hL2 : LR M2 40 (ikU (M 101) k i) := by rw [e2]; exact LR_sk hW hL1 (by omega) _
        have hA2 : Ag (ldC 40) M' M2 := by rw [e2]; exact hA1.ua (by decide) _
        have hX2 := hX0.to lb hA2 (s' := ikU (M 101) k i) (by unfold ikU; exact pk_un (by omega)) (fun j hj => by unfold ikU; exact pk_un (by omega)) hL2 (inv_ik hI hk hi)
        refine sX1_passDays lb (by omega) (by omega) hX2 (fun M3 hA3 hX3 => kV_i (bX7_inks_89 ?_))
        have e13 : M3 40 13 = wkI (M 101) k n i := hX3.1.1.2.2.2.2.2.1
        rw [e13, p1]
        have ih' := ih M3 (hA.tr ((hA2.tr hA3).sub scx40))
        rw [st_s hIL hk hi (by omega)] at ih'
        exact ⟨fun h => by rw [if_pos h] at ih'; exact ih', fun h => by rw [if_neg h] at ih'; exact ih'⟩
    refine tX7_inks ⟨fun h1 => (absurd hc (fun hc => by simp (disch := omega) only [n1, n6, ne_eq, not_true_eq_false, Rg, tlt, tle, teq, tnI, ts1, tl0, tl1, tl2, tl3, tl4, tl5, tl6, tl7, tl8, tl9, tl10, tl11, tl12, tl13, tl14, tl15, tl16, tl24, tl30, tl33, tl60, tl84, tl96, tl99, tl100, tl200, tlm1, t44] at h1 hc <;> omega)), fun h2 => ⟨fun h3 => (absurd hc (fun hc => by simp (disch := omega) only [n1, n6, ne_eq, not_true_eq_false, Rg, tlt, tle, teq, tnI, ts1, tl0, tl1, tl2, tl3, tl4, tl5, tl6, tl7, tl8, tl9, tl10, tl11, tl12, tl13, tl14, tl15, tl16, tl24, tl30, tl33, tl60, tl84, tl96, tl99, tl100, tl200, tlm1, t44] at h2 h3 hc <;> omega)), fun h4 => ⟨fun h5 => (absurd hc (fun hc => by simp (disch := omega) only [n1, n6, ne_eq, not_true_eq_false, Rg, tlt, tle, teq, tnI, ts1, tl0, tl1, tl2, tl3, tl4, tl5, tl6, tl7, tl8, tl9, tl10, tl11, tl12, tl13, tl14, tl15, tl16, tl24, tl30, tl33, tl60, tl84, tl96, tl99, tl100, tl200, tlm1, t44] at h2 h4 h5 hc <;> omega)), fun h6 => ⟨fun h7 => (absurd hc (fun hc => by simp (disch := omega) only [n1, n6, ne_eq, not_true_eq_false, Rg, tlt, tle, teq, tnI, ts1, tl0, tl1, tl2, tl3, tl4, tl5, tl6, tl7, tl8, tl9, tl10, tl11, tl12, tl13, tl14, tl15, tl16, tl24, tl30, tl33, tl60, tl84, tl96, tl99, tl100, tl200, tlm1, t44] at h2 h4 h6 h7 hc <;> omega)), fun h8 => ⟨fun h9 => (absurd hc (fun hc => by simp (disch := omega) only [n1, n6, ne_eq, not_true_eq_false, Rg, tlt, tle, teq, tnI, ts1, tl0, tl1, tl2, tl3, tl4, tl5, tl6, tl7, tl8, tl9, tl10, tl11, tl12, tl13, tl14, tl15, tl16, tl24, tl30, tl33, tl60, tl84, tl96, tl99, tl100, tl200, tlm1, t44] at h2 h4 h6 h8 h9 hc <;> omega)), fun h10 => ⟨fun h11 => ?_, fun h12 => (absurd hc (fun hc => by simp (disch := omega) only [n1, n6, ne_eq, not_true_eq_false, Rg, tlt, tle, teq, tnI, ts1, tl0, tl1, tl2, tl3, tl4, tl5, tl6, tl7, tl8, tl9, tl10, tl11, tl12, tl13, tl14, tl15, tl16, tl24, tl30, tl33, tl60, tl84, tl96, tl99, tl100, tl200, tlm1, t44] at h2 h4 h6 h8 h10 h12 hc <;> omega))⟩⟩⟩⟩⟩⟩
    exact loop 0 (Nat.zero_le _) M (Ag.rf _ _)
  · simp only [if_neg hc] at hR
    exact tX7_inks ⟨fun h1 => (hR M (Ag.rf _ _)), fun h2 => ⟨fun h3 => (hR M (Ag.rf _ _)), fun h4 => ⟨fun h5 => (hR M (Ag.rf _ _)), fun h6 => ⟨fun h7 => (hR M (Ag.rf _ _)), fun h8 => ⟨fun h9 => (hR M (Ag.rf _ _)), fun h10 => ⟨fun h11 => ((hc (by simp (disch := omega) only [n1, n6, ne_eq, not_true_eq_false, Rg, tlt, tle, teq, tnI, ts1, tl0, tl1, tl2, tl3, tl4, tl5, tl6, tl7, tl8, tl9, tl10, tl11, tl12, tl13, tl14, tl15, tl16, tl24, tl30, tl33, tl60, tl84, tl96, tl99, tl100, tl200, tlm1, t44] at h2 h4 h6 h8 h10 h11 ⊢ <;> omega)).elim), fun h12 => (hR M (Ag.rf _ _))⟩⟩⟩⟩⟩⟩
theorem M_inks {k n q : Int32} (hD : 36 ≤ D) (hIS : IS M) (hR : ∀ M', Ag scY M M' → M' 101 = M 101 → R (some (.int (anInks (M 101) k n q))) M') : Tr l G D mX8_inks [.ref (G.1 100), .int k, .int n, .int q] M R := by
  obtain ⟨d, rfl⟩ := dE (show 4 ≤ D by omega)
  have hI := hIS.1.1
  have m0 : M 101 0 = nI (np (M 101)) := hI.1.1
  have m3 : M 101 3 = nI (nw (M 101)) := hI.2.1.1
  have hp := hI.1.2
  have hw := hI.2.1.2
  have hW := hI.2.1
  unfold anInks at hR
  by_cases hc : Rg (np (M 101)) k ∧ (1 ≤ n.toInt ∧ n.toInt ≤ 60) ∧ (q = 0 ∨ q = 1)
  · simp only [if_pos hc] at hR
    obtain ⟨k, hk, rfl⟩ := hc.1.ex
    have xk := ix_nI (show k < 2 ^ 31 by omega)
    obtain ⟨n, hn, rfl⟩ := (show Rg 61 n from ⟨by have := hc.2.1.1; omega, by have := hc.2.1.2; omega⟩).ex
    have xn := ix_nI (show n < 2 ^ 31 by omega)
    try simp only [xk, xn] at hR
    have hIL := hIS.1
    have loop : ∀ i, i ≤ nw (M 101) → ∀ M', Ag scY M M' → (∀ j, j < 84 → M' 113 j = M 101 j) → M' 101 = M 101 → At l G (d + 4) mX8_inks 32 [some (.ref (G.1 100)), some (.int (nI k)), some (.int (nI n)), some (.int q), some (.int (ikS (M 101) k n i).1), some (.int (ikS (M 101) k n i).2), some (.int (nI i)), none] [] M' R := by
      refine upL (fun i => ∀ M', Ag scY M M' → (∀ j, j < 84 → M' 113 j = M 101 j) → M' 101 = M 101 → At l G (d + 4) mX8_inks 32 [some (.ref (G.1 100)), some (.int (nI k)), some (.int (nI n)), some (.int q), some (.int (ikS (M 101) k n i).1), some (.int (ikS (M 101) k n i).2), some (.int (nI i)), none] [] M' R) (nw (M 101)) ?_ ?_
      · intro M' hA b1 he
        have hR2 := hR M' hA he
        refine bX8_inks_32 ⟨fun _ => ?_, fun h => absurd (by rw [he, m3, le_nI (by omega) (by omega)]; exact Nat.le_refl _) h⟩
        by_cases h0 : nw (M 101) = 0
        · rw [if_pos h0] at hR2
          rw [h0]
          exact ⟨fun h => absurd (show (0 : Int32) ≤ -1 from h) (by decide), fun _ => hR2⟩
        · rw [if_neg h0] at hR2
          have hp' := ik_pos hIL (n := n) hk (by omega) (nw (M 101) - 1) (by omega)
          rw [show nw (M 101) - 1 + 1 = nw (M 101) by omega] at hp'
          exact ⟨fun _ => ⟨fun h => by rw [if_pos h] at hR2; exact hR2, fun h => by rw [if_neg h] at hR2; exact hR2⟩, fun h => absurd hp' h⟩
      · intro i hi ih M' hA b1 he
        refine bX8_inks_32 ⟨fun h => absurd h (by rw [he, m3, le_nI (by omega) (by omega)]; omega), fun _ => ⟨v3 (by omega), v3 (by omega), fun M2 e2' => ?_⟩⟩
        rw [e3 (by omega), he] at e2'
        have f2 : M2 101 = ikU (M 101) k i := by rw [e2', um_s, he]; rfl
        have ii := inv_ik hI hk hi
        have hA2 : Ag [101] M' M2 := by rw [e2']; exact (Ag.rf _ _).ua (by decide) _
        refine sX8_goesOnMany (by omega) (by omega) (by rw [f2]; exact ii.1) (by rw [f2]; exact ii.2.1) (by rw [f2]; exact ii.2.2.1) (fun M3 hA3 h3 => kV_i (bX8_inks_65 ?_))
        rw [f2] at h3
        refine sX8_laysBack (by omega) (fun M4 hA4 h4 => kV_i (bX8_inks_78 ?_))
        rw [show M3 101 6 = wkI (M 101) k n i by rw [h3]; rfl]
        have c1 : ∀ j, j < 84 → M3 113 j = M 101 j := fun j hj => by rw [hA3 113 (by decide), hA2 113 (by decide)]; exact b1 j hj
        have c2 : ∀ j, 84 ≤ j → M3 101 j = M 101 j := fun j hj => by rw [h3, (dys_keep ii.1 ii.2.1 n).2.2.2.2.2.1 j hj]; unfold ikU; exact pk_un (by omega)
        have ih' := ih M4 (((hA.tr (hA2.sub (by decide))).tr (hA3.sub (by decide))).tr (hA4.sub (by decide))) (fun j hj => by rw [hA4 113 (by decide)]; exact c1 j hj) (back_is c1 c2 h4)
        rw [p1]
        rw [ik_s] at ih'
        exact ⟨fun h => ⟨fun _ => by rw [if_pos h] at ih'; exact ih', fun h2 => absurd h h2⟩, fun h => ⟨fun h2 => absurd h2 h, fun _ => by rw [if_neg h] at ih'; exact ih'⟩⟩
    refine tX8_inks ⟨fun h1 => ⟨fun h2 => ⟨fun h3 => ⟨fun h4 => ⟨fun h5 => ⟨fun h6 => ?_, fun h7 => (absurd hc (fun hc => by simp (disch := omega) only [m0, m3, ne_eq, not_true_eq_false, Rg, tlt, tle, teq, tnI, ts1, tl0, tl1, tl2, tl3, tl4, tl5, tl6, tl7, tl8, tl9, tl10, tl11, tl12, tl13, tl14, tl15, tl16, tl24, tl30, tl33, tl60, tl84, tl96, tl99, tl100, tl200, tlm1, t44] at h1 h2 h3 h4 h5 h7 hc <;> omega))⟩, fun h8 => (absurd hc (fun hc => by simp (disch := omega) only [m0, m3, ne_eq, not_true_eq_false, Rg, tlt, tle, teq, tnI, ts1, tl0, tl1, tl2, tl3, tl4, tl5, tl6, tl7, tl8, tl9, tl10, tl11, tl12, tl13, tl14, tl15, tl16, tl24, tl30, tl33, tl60, tl84, tl96, tl99, tl100, tl200, tlm1, t44] at h1 h2 h3 h4 h8 hc <;> omega))⟩, fun h9 => (absurd hc (fun hc => by simp (disch := omega) only [m0, m3, ne_eq, not_true_eq_false, Rg, tlt, tle, teq, tnI, ts1, tl0, tl1, tl2, tl3, tl4, tl5, tl6, tl7, tl8, tl9, tl10, tl11, tl12, tl13, tl14, tl15, tl16, tl24, tl30, tl33, tl60, tl84, tl96, tl99, tl100, tl200, tlm1, t44] at h1 h2 h3 h9 hc <;> omega))⟩, fun h10 => (absurd hc (fun hc => by simp (disch := omega) only [m0, m3, ne_eq, not_true_eq_false, Rg, tlt, tle, teq, tnI, ts1, tl0, tl1, tl2, tl3, tl4, tl5, tl6, tl7, tl8, tl9, tl10, tl11, tl12, tl13, tl14, tl15, tl16, tl24, tl30, tl33, tl60, tl84, tl96, tl99, tl100, tl200, tlm1, t44] at h1 h2 h10 hc <;> omega))⟩, fun h11 => (absurd hc (fun hc => by simp (disch := omega) only [m0, m3, ne_eq, not_true_eq_false, Rg, tlt, tle, teq, tnI, ts1, tl0, tl1, tl2, tl3, tl4, tl5, tl6, tl7, tl8, tl9, tl10, tl11, tl12, tl13, tl14, tl15, tl16, tl24, tl30, tl33, tl60, tl84, tl96, tl99, tl100, tl200, tlm1, t44] at h1 h11 hc <;> omega))⟩, fun h12 => (absurd hc (fun hc => by simp (disch := omega) only [m0, m3, ne_eq, not_true_eq_false, Rg, tlt, tle, teq, tnI, ts1, tl0, tl1, tl2, tl3, tl4, tl5, tl6, tl7, tl8, tl9, tl10, tl11, tl12, tl13, tl14, tl15, tl16, tl24, tl30, tl33, tl60, tl84, tl96, tl99, tl100, tl200, tlm1, t44] at h12 hc <;> omega))⟩
    refine sX8_laysBy (by omega) (fun M1 hA1 h1 => kV_i (bX8_inks_23 ?_))
    exact loop 0 (Nat.zero_le _) M1 (hA1.sub (by decide)) h1 (hA1 101 (by decide))
  · simp only [if_neg hc] at hR
    exact tX8_inks ⟨fun h1 => ⟨fun h2 => ⟨fun h3 => ⟨fun h4 => ⟨fun h5 => ⟨fun h6 => ((hc (by simp (disch := omega) only [m0, m3, ne_eq, not_true_eq_false, Rg, tlt, tle, teq, tnI, ts1, tl0, tl1, tl2, tl3, tl4, tl5, tl6, tl7, tl8, tl9, tl10, tl11, tl12, tl13, tl14, tl15, tl16, tl24, tl30, tl33, tl60, tl84, tl96, tl99, tl100, tl200, tlm1, t44] at h1 h2 h3 h4 h5 h6 ⊢ <;> omega)).elim), fun h7 => ((hR M (Ag.rf _ _) rfl))⟩, fun h8 => ((hR M (Ag.rf _ _) rfl))⟩, fun h9 => ((hR M (Ag.rf _ _) rfl))⟩, fun h10 => ((hR M (Ag.rf _ _) rfl))⟩, fun h11 => ((hR M (Ag.rf _ _) rfl))⟩, fun h12 => ((hR M (Ag.rf _ _) rfl))⟩
def anBecomes (s : Nat → Int32) (k n q : Int32) : Int32 := if Rg (np s) k ∧ (1 ≤ n.toInt ∧ n.toInt ≤ 60) ∧ (q = 0 ∨ q = 1) then (if q = 0 then (bcS s (ix k) (ix n) 6).1 else (bcS s (ix k) (ix n) 6).2) else (-1000000001)
theorem X_becomes {k n q : Int32} (hD : 36 ≤ D) (hRel : Rel M) (hR : ∀ M', Ag scX M M' → R (some (.int (anBecomes (M 101) k n q))) M') : Tr l G D mX7_becomes [.ref (G.1 0), .int k, .int n, .int q] M R := by
  obtain ⟨d, rfl⟩ := dE (show 4 ≤ D by omega)
  have hL := hRel.1.1.1
  have hI := hRel.2.1.1
  have n1 : M 30 1 = nI (np (M 101)) := hL.1.1.trans hI.1.1
  have n6 : M 30 6 = nI (nw (M 101)) := hL.1.2.1.trans hI.2.1.1
  have hp := hI.1.2
  have hw := hI.2.1.2
  have hW := hI.2.1
  unfold anBecomes at hR
  by_cases hc : Rg (np (M 101)) k ∧ (1 ≤ n.toInt ∧ n.toInt ≤ 60) ∧ (q = 0 ∨ q = 1)
  · simp only [if_pos hc] at hR
    obtain ⟨k, hk, rfl⟩ := hc.1.ex
    have xk := ix_nI (show k < 2 ^ 31 by omega)
    obtain ⟨n, hn, rfl⟩ := (show Rg 61 n from ⟨by have := hc.2.1.1; omega, by have := hc.2.1.2; omega⟩).ex
    have xn := ix_nI (show n < 2 ^ 31 by omega)
    try simp only [xk, xn] at hR
    have lb : IsLd 40 := Or.inr (Or.inl rfl)
    have loop : ∀ i, i ≤ 6 → ∀ M', Ag scX M M' → At l G (d + 4) mX7_becomes 40 [some (.ref (G.1 0)), some (.int (nI k)), some (.int (nI n)), some (.int q), some (.int (bcS (M 101) k n i).1), some (.int (bcS (M 101) k n i).2), some (.int (nI i)), none] [] M' R := by
      refine upL (fun i => ∀ M', Ag scX M M' → At l G (d + 4) mX7_becomes 40 [some (.ref (G.1 0)), some (.int (nI k)), some (.int (nI n)), some (.int q), some (.int (bcS (M 101) k n i).1), some (.int (bcS (M 101) k n i).2), some (.int (nI i)), none] [] M' R) 6 ?_ ?_
      · intro M' hA
        have hR2 := hR M' hA
        refine bX7_becomes_40 ⟨fun _ => ?_, fun h => absurd (by decide : (6 : Int32) ≤ nI 6) h⟩
        exact ⟨fun h => by rw [if_pos h] at hR2; exact hR2, fun h => by rw [if_neg h] at hR2; exact hR2⟩
      · intro i hi ih M' hA
        have hX0 : XS M' 30 (M 101) := by
          refine ⟨hL.of (fun j hj => hA _ (by simp only [scX, List.mem_cons, List.not_mem_nil, or_false]; omega)), hI, fun t ht => ?_⟩
          have h14 := hI.2.2.1.2.1
          have hlw := hRel.1.1.2 t ht
          unfold LW at hlw ⊢
          rw [hA 3 (by decide), hA 4 (by decide), hA 5 (by decide), hA (7 + t) (by simp only [scX, List.mem_cons, List.not_mem_nil, or_false]; omega)]
          exact hlw
        refine bX7_becomes_40 ⟨fun h => absurd h (by rw [show (6 : Int32) = nI 6 from rfl, le_nI (by omega) (by omega)]; omega), fun _ => ?_⟩
        refine sX1_take lb ld30 (by decide) (by omega) hX0.1 (fun M1 hA1 hL1 => kV_i (bX7_becomes_58 ⟨vpn (by omega) (by decide), ?_⟩))
        rw [xk]
        have hL2 : LR (um M1 41 k (nI i)) 40 (bcU (M 101) k i) := LR_kd hW hL1 (by omega) _
        have hA2 : Ag (ldC 40) M' (um M1 41 k (nI i)) := hA1.ua (by decide) _
        have hX2 := hX0.to lb hA2 (s' := bcU (M 101) k i) (by unfold bcU; exact pk_un (by omega)) (fun j hj => by unfold bcU; exact pk_un (by omega)) hL2 (inv_bc hI (by omega) hi)
        refine sX1_passDays lb (by omega) (by omega) hX2 (fun M3 hA3 hX3 => kV_i (bX7_becomes_77 ?_))
        refine sX1_waysBorne lb (by omega) hX3.2.1 hX3.1 (kI_i (bX7_becomes_84 ?_))
        rw [show pcI (brS (dysS n (bcU (M 101) k i)) (mk (np (dysS n (bcU (M 101) k i))))) = bkI (M 101) k n i from rfl, p1]
        have ih' := ih M3 (hA.tr ((hA2.tr hA3).sub scx40))
        rw [bc_s] at ih'
        exact ⟨fun h => by rw [if_pos h] at ih'; exact ih', fun h => by rw [if_neg h] at ih'; exact ih'⟩
    refine tX7_becomes ⟨fun h1 => (absurd hc (fun hc => by simp (disch := omega) only [n1, n6, ne_eq, not_true_eq_false, Rg, tlt, tle, teq, tnI, ts1, tl0, tl1, tl2, tl3, tl4, tl5, tl6, tl7, tl8, tl9, tl10, tl11, tl12, tl13, tl14, tl15, tl16, tl24, tl30, tl33, tl60, tl84, tl96, tl99, tl100, tl200, tlm1, t44] at h1 hc <;> omega)), fun h2 => ⟨fun h3 => (absurd hc (fun hc => by simp (disch := omega) only [n1, n6, ne_eq, not_true_eq_false, Rg, tlt, tle, teq, tnI, ts1, tl0, tl1, tl2, tl3, tl4, tl5, tl6, tl7, tl8, tl9, tl10, tl11, tl12, tl13, tl14, tl15, tl16, tl24, tl30, tl33, tl60, tl84, tl96, tl99, tl100, tl200, tlm1, t44] at h2 h3 hc <;> omega)), fun h4 => ⟨fun h5 => (absurd hc (fun hc => by simp (disch := omega) only [n1, n6, ne_eq, not_true_eq_false, Rg, tlt, tle, teq, tnI, ts1, tl0, tl1, tl2, tl3, tl4, tl5, tl6, tl7, tl8, tl9, tl10, tl11, tl12, tl13, tl14, tl15, tl16, tl24, tl30, tl33, tl60, tl84, tl96, tl99, tl100, tl200, tlm1, t44] at h2 h4 h5 hc <;> omega)), fun h6 => ⟨fun h7 => (absurd hc (fun hc => by simp (disch := omega) only [n1, n6, ne_eq, not_true_eq_false, Rg, tlt, tle, teq, tnI, ts1, tl0, tl1, tl2, tl3, tl4, tl5, tl6, tl7, tl8, tl9, tl10, tl11, tl12, tl13, tl14, tl15, tl16, tl24, tl30, tl33, tl60, tl84, tl96, tl99, tl100, tl200, tlm1, t44] at h2 h4 h6 h7 hc <;> omega)), fun h8 => ⟨fun h9 => (absurd hc (fun hc => by simp (disch := omega) only [n1, n6, ne_eq, not_true_eq_false, Rg, tlt, tle, teq, tnI, ts1, tl0, tl1, tl2, tl3, tl4, tl5, tl6, tl7, tl8, tl9, tl10, tl11, tl12, tl13, tl14, tl15, tl16, tl24, tl30, tl33, tl60, tl84, tl96, tl99, tl100, tl200, tlm1, t44] at h2 h4 h6 h8 h9 hc <;> omega)), fun h10 => ⟨fun h11 => ?_, fun h12 => (absurd hc (fun hc => by simp (disch := omega) only [n1, n6, ne_eq, not_true_eq_false, Rg, tlt, tle, teq, tnI, ts1, tl0, tl1, tl2, tl3, tl4, tl5, tl6, tl7, tl8, tl9, tl10, tl11, tl12, tl13, tl14, tl15, tl16, tl24, tl30, tl33, tl60, tl84, tl96, tl99, tl100, tl200, tlm1, t44] at h2 h4 h6 h8 h10 h12 hc <;> omega))⟩⟩⟩⟩⟩⟩
    exact loop 0 (Nat.zero_le _) M (Ag.rf _ _)
  · simp only [if_neg hc] at hR
    exact tX7_becomes ⟨fun h1 => (hR M (Ag.rf _ _)), fun h2 => ⟨fun h3 => (hR M (Ag.rf _ _)), fun h4 => ⟨fun h5 => (hR M (Ag.rf _ _)), fun h6 => ⟨fun h7 => (hR M (Ag.rf _ _)), fun h8 => ⟨fun h9 => (hR M (Ag.rf _ _)), fun h10 => ⟨fun h11 => ((hc (by simp (disch := omega) only [n1, n6, ne_eq, not_true_eq_false, Rg, tlt, tle, teq, tnI, ts1, tl0, tl1, tl2, tl3, tl4, tl5, tl6, tl7, tl8, tl9, tl10, tl11, tl12, tl13, tl14, tl15, tl16, tl24, tl30, tl33, tl60, tl84, tl96, tl99, tl100, tl200, tlm1, t44] at h2 h4 h6 h8 h10 h11 ⊢ <;> omega)).elim), fun h12 => (hR M (Ag.rf _ _))⟩⟩⟩⟩⟩⟩
theorem M_becomes {k n q : Int32} (hD : 36 ≤ D) (hIS : IS M) (hR : ∀ M', Ag scY M M' → M' 101 = M 101 → R (some (.int (anBecomes (M 101) k n q))) M') : Tr l G D mX8_becomes [.ref (G.1 100), .int k, .int n, .int q] M R := by
  obtain ⟨d, rfl⟩ := dE (show 4 ≤ D by omega)
  have hI := hIS.1.1
  have m0 : M 101 0 = nI (np (M 101)) := hI.1.1
  have m3 : M 101 3 = nI (nw (M 101)) := hI.2.1.1
  have hp := hI.1.2
  have hw := hI.2.1.2
  have hW := hI.2.1
  unfold anBecomes at hR
  by_cases hc : Rg (np (M 101)) k ∧ (1 ≤ n.toInt ∧ n.toInt ≤ 60) ∧ (q = 0 ∨ q = 1)
  · simp only [if_pos hc] at hR
    obtain ⟨k, hk, rfl⟩ := hc.1.ex
    have xk := ix_nI (show k < 2 ^ 31 by omega)
    obtain ⟨n, hn, rfl⟩ := (show Rg 61 n from ⟨by have := hc.2.1.1; omega, by have := hc.2.1.2; omega⟩).ex
    have xn := ix_nI (show n < 2 ^ 31 by omega)
    try simp only [xk, xn] at hR
    have loop : ∀ i, i ≤ 6 → ∀ M', Ag scY M M' → (∀ j, j < 84 → M' 113 j = M 101 j) → M' 101 = M 101 → At l G (d + 4) mX8_becomes 32 [some (.ref (G.1 100)), some (.int (nI k)), some (.int (nI n)), some (.int q), some (.int (bcS (M 101) k n i).1), some (.int (bcS (M 101) k n i).2), some (.int (nI i)), none] [] M' R := by
      refine upL (fun i => ∀ M', Ag scY M M' → (∀ j, j < 84 → M' 113 j = M 101 j) → M' 101 = M 101 → At l G (d + 4) mX8_becomes 32 [some (.ref (G.1 100)), some (.int (nI k)), some (.int (nI n)), some (.int q), some (.int (bcS (M 101) k n i).1), some (.int (bcS (M 101) k n i).2), some (.int (nI i)), none] [] M' R) 6 ?_ ?_
      · intro M' hA b1 he
        have hR2 := hR M' hA he
        refine bX8_becomes_32 ⟨fun _ => ?_, fun h => absurd (by decide : (6 : Int32) ≤ nI 6) h⟩
        exact ⟨fun h => by rw [if_pos h] at hR2; exact hR2, fun h => by rw [if_neg h] at hR2; exact hR2⟩
      · intro i hi ih M' hA b1 he
        refine bX8_becomes_32 ⟨fun h => absurd h (by rw [show (6 : Int32) = nI 6 from rfl, le_nI (by omega) (by omega)]; omega), fun _ => ⟨v0 (by omega), ?_⟩⟩
        rw [e0 (by omega)]
        have f2 : (um M' 101 (10 + 4 * k) (nI i)) 101 = bcU (M 101) k i := by rw [um_s, he]; rfl
        have ii := inv_bc hI (show k < 8 by omega) hi
        have hA2 : Ag [101] M' (um M' 101 (10 + 4 * k) (nI i)) := (Ag.rf _ _).ua (by decide) _
        refine sX8_goesOnMany (by omega) (by omega) (by rw [f2]; exact ii.1) (by rw [f2]; exact ii.2.1) (by rw [f2]; exact ii.2.2.1) (fun M3 hA3 h3 => kV_i (bX8_becomes_52 ?_))
        rw [f2] at h3
        have i3 := inv_dys ii n
        obtain ⟨m, hm, e⟩ := br_all i3
        rw [← h3] at e
        refine sX8_known (by omega) (by rw [h3]; exact i3.1) ⟨by rw [e, ix_nI (by omega)]; exact hm, by rw [e, ix_nI (by omega)]⟩ (kI_i (bX8_becomes_56 ?_))
        refine sX8_laysBack (by omega) (fun M4 hA4 h4 => kV_i (bX8_becomes_62 ?_))
        rw [show pcI (brS (M3 101) (mk (np (M3 101)))) = bkI (M 101) k n i by rw [h3]; rfl]
        have c1 : ∀ j, j < 84 → M3 113 j = M 101 j := fun j hj => by rw [hA3 113 (by decide), hA2 113 (by decide)]; exact b1 j hj
        have c2 : ∀ j, 84 ≤ j → M3 101 j = M 101 j := fun j hj => by rw [h3, (dys_keep ii.1 ii.2.1 n).2.2.2.2.2.1 j hj]; unfold bcU; exact pk_un (by omega)
        have ih' := ih M4 (((hA.tr (hA2.sub (by decide))).tr (hA3.sub (by decide))).tr (hA4.sub (by decide))) (fun j hj => by rw [hA4 113 (by decide)]; exact c1 j hj) (back_is c1 c2 h4)
        rw [p1]
        rw [bc_s] at ih'
        exact ⟨fun h => ⟨fun _ => by rw [if_pos h] at ih'; exact ih', fun h2 => absurd h h2⟩, fun h => ⟨fun h2 => absurd h2 h, fun _ => by rw [if_neg h] at ih'; exact ih'⟩⟩
    refine tX8_becomes ⟨fun h1 => ⟨fun h2 => ⟨fun h3 => ⟨fun h4 => ⟨fun h5 => ⟨fun h6 => ?_, fun h7 => (absurd hc (fun hc => by simp (disch := omega) only [m0, m3, ne_eq, not_true_eq_false, Rg, tlt, tle, teq, tnI, ts1, tl0, tl1, tl2, tl3, tl4, tl5, tl6, tl7, tl8, tl9, tl10, tl11, tl12, tl13, tl14, tl15, tl16, tl24, tl30, tl33, tl60, tl84, tl96, tl99, tl100, tl200, tlm1, t44] at h1 h2 h3 h4 h5 h7 hc <;> omega))⟩, fun h8 => (absurd hc (fun hc => by simp (disch := omega) only [m0, m3, ne_eq, not_true_eq_false, Rg, tlt, tle, teq, tnI, ts1, tl0, tl1, tl2, tl3, tl4, tl5, tl6, tl7, tl8, tl9, tl10, tl11, tl12, tl13, tl14, tl15, tl16, tl24, tl30, tl33, tl60, tl84, tl96, tl99, tl100, tl200, tlm1, t44] at h1 h2 h3 h4 h8 hc <;> omega))⟩, fun h9 => (absurd hc (fun hc => by simp (disch := omega) only [m0, m3, ne_eq, not_true_eq_false, Rg, tlt, tle, teq, tnI, ts1, tl0, tl1, tl2, tl3, tl4, tl5, tl6, tl7, tl8, tl9, tl10, tl11, tl12, tl13, tl14, tl15, tl16, tl24, tl30, tl33, tl60, tl84, tl96, tl99, tl100, tl200, tlm1, t44] at h1 h2 h3 h9 hc <;> omega))⟩, fun h10 => (absurd hc (fun hc => by simp (disch := omega) only [m0, m3, ne_eq, not_true_eq_false, Rg, tlt, tle, teq, tnI, ts1, tl0, tl1, tl2, tl3, tl4, tl5, tl6, tl7, tl8, tl9, tl10, tl11, tl12, tl13, tl14, tl15, tl16, tl24, tl30, tl33, tl60, tl84, tl96, tl99, tl100, tl200, tlm1, t44] at h1 h2 h10 hc <;> omega))⟩, fun h11 => (absurd hc (fun hc => by simp (disch := omega) only [m0, m3, ne_eq, not_true_eq_false, Rg, tlt, tle, teq, tnI, ts1, tl0, tl1, tl2, tl3, tl4, tl5, tl6, tl7, tl8, tl9, tl10, tl11, tl12, tl13, tl14, tl15, tl16, tl24, tl30, tl33, tl60, tl84, tl96, tl99, tl100, tl200, tlm1, t44] at h1 h11 hc <;> omega))⟩, fun h12 => (absurd hc (fun hc => by simp (disch := omega) only [m0, m3, ne_eq, not_true_eq_false, Rg, tlt, tle, teq, tnI, ts1, tl0, tl1, tl2, tl3, tl4, tl5, tl6, tl7, tl8, tl9, tl10, tl11, tl12, tl13, tl14, tl15, tl16, tl24, tl30, tl33, tl60, tl84, tl96, tl99, tl100, tl200, tlm1, t44] at h12 hc <;> omega))⟩
    refine sX8_laysBy (by omega) (fun M1 hA1 h1 => kV_i (bX8_becomes_23 ?_))
    exact loop 0 (by omega) M1 (hA1.sub (by decide)) h1 (hA1 101 (by decide))
  · simp only [if_neg hc] at hR
    exact tX8_becomes ⟨fun h1 => ⟨fun h2 => ⟨fun h3 => ⟨fun h4 => ⟨fun h5 => ⟨fun h6 => ((hc (by simp (disch := omega) only [m0, m3, ne_eq, not_true_eq_false, Rg, tlt, tle, teq, tnI, ts1, tl0, tl1, tl2, tl3, tl4, tl5, tl6, tl7, tl8, tl9, tl10, tl11, tl12, tl13, tl14, tl15, tl16, tl24, tl30, tl33, tl60, tl84, tl96, tl99, tl100, tl200, tlm1, t44] at h1 h2 h3 h4 h5 h6 ⊢ <;> omega)).elim), fun h7 => ((hR M (Ag.rf _ _) rfl))⟩, fun h8 => ((hR M (Ag.rf _ _) rfl))⟩, fun h9 => ((hR M (Ag.rf _ _) rfl))⟩, fun h10 => ((hR M (Ag.rf _ _) rfl))⟩, fun h11 => ((hR M (Ag.rf _ _) rfl))⟩, fun h12 => ((hR M (Ag.rf _ _) rfl))⟩
end
