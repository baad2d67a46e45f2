-- pour
theorem mm_wi9 (r : Int32) : (if 0 < (if 99 < r then 99 else r) then (if 99 < r then 99 else r) else 0) = wiS r 99 := by
  unfold wiS
  by_cases h : 99 < r
  · have h0 : (0 : Int32) ≤ r := by simp (disch := omega) only [ne_eq, not_true_eq_false, Rg, tlt, tle, teq, tnI, ts1, tl0, tl1, tl2, tl3, tl4, tl5, tl6, tl7, tl8, tl9, tl10, tl11, tl12, tl13, tl14, tl15, tl16, tl24, tl30, tl33, tl60, tl84, tl96, tl99, tl100, tl200, tlm1, t44] at h ⊢ <;> omega
    rw [if_pos h, if_pos (by decide : (0 : Int32) < 99), if_pos h0, if_neg (Int32.not_le.mpr h)]
  · rw [if_neg h]
    have h100 : r ≤ 99 := Int32.not_lt.mp h
    by_cases h0 : 0 ≤ r
    · rw [if_pos h0, if_pos h100]
      by_cases h1 : 0 < r
      · rw [if_pos h1]
      · rw [if_neg h1]
        simp (disch := omega) only [ne_eq, not_true_eq_false, Rg, tlt, tle, teq, tnI, ts1, tl0, tl1, tl2, tl3, tl4, tl5, tl6, tl7, tl8, tl9, tl10, tl11, tl12, tl13, tl14, tl15, tl16, tl24, tl30, tl33, tl60, tl84, tl96, tl99, tl100, tl200, tlm1, t44] at h0 h1 ⊢ <;> omega
    · rw [if_neg h0, if_neg (by simp (disch := omega) only [ne_eq, not_true_eq_false, Rg, tlt, tle, teq, tnI, ts1, tl0, tl1, tl2, tl3, tl4, tl5, tl6, tl7, tl8, tl9, tl10, tl11, tl12, tl13, tl14, tl15, tl16, tl24, tl30, tl33, tl60, tl84, tl96, tl99, tl100, tl200, tlm1, t44] at h0 ⊢ <;> omega)]
def poS (r : Nat → Int32) (s : Nat → Int32) : Nat → Int32 × (Nat → Int32)
  | 0 => (0, s)
  | i + 1 => if r i = (-1000000005) then poS r s i else (if wiS (r i) 99 = (poS r s i).2 (12 + 4 * i) then (poS r s i).1 else (poS r s i).1 + 1, upd (poS r s i).2 (12 + 4 * i) (wiS (r i) 99))
theorem po_s (r : Nat → Int32) (s : Nat → Int32) (i : Nat) : poS r s (i + 1) = if r i = (-1000000005) then poS r s i else (if wiS (r i) 99 = (poS r s i).2 (12 + 4 * i) then (poS r s i).1 else (poS r s i).1 + 1, upd (poS r s i).2 (12 + 4 * i) (wiS (r i) 99)) := rfl
theorem po_n (r : Nat → Int32) (s : Nat → Int32) {j : Nat} (hj : j < 10 ∨ 42 ≤ j) : ∀ i, i ≤ 8 → (poS r s i).2 j = s j
  | 0, _ => rfl
  | i + 1, hi => by
    rw [po_s]
    split
    · exact po_n r s hj i (by omega)
    · show upd _ _ _ j = _
      rw [pk_un (by omega)]
      exact po_n r s hj i (by omega)
theorem wi_is (v : Int32) : ∃ a, a < 100 ∧ wiS v 99 = nI a := by
  unfold wiS
  split
  · split
    · next h1 h2 => exact Rg.ex (n := 100) (v := v) (by simp (disch := omega) only [ne_eq, not_true_eq_false, Rg, tlt, tle, teq, tnI, ts1, tl0, tl1, tl2, tl3, tl4, tl5, tl6, tl7, tl8, tl9, tl10, tl11, tl12, tl13, tl14, tl15, tl16, tl24, tl30, tl33, tl60, tl84, tl96, tl99, tl100, tl200, tlm1, t44] at h1 h2 ⊢ <;> omega)
    · exact ⟨99, by decide, rfl⟩
  · exact ⟨0, by decide, rfl⟩
theorem po_inv {r : Nat → Int32} {s : Nat → Int32} (h : Inv s) : ∀ i, i ≤ 8 → Inv (poS r s i).2
  | 0, _ => h
  | i + 1, hi => by
    rw [po_s]
    split
    · exact po_inv h i (by omega)
    · exact inv_ag (po_inv h i (by omega)) (by omega) (wi_is _)
abbrev mnS (M : Mem) (k : Nat) : Nat := if ix (M 105 k) ≤ np (M 101) then ix (M 105 k) else np (M 101)
abbrev rwS (M : Mem) (k : Nat) : Nat → Int32 := fun i => M 106 (24 * k + i)
section
variable {l : Launch} {G : GT} {D : Nat} {M : Mem} {R : Option Value → Mem → Prop} {b : Nat} {s : Nat → Int32}
def anPour (M : Mem) (k : Int32) : Int32 := if Rg 4 k then (if M 104 (ix k) = -1 then (-1000000011) else (poS (rwS M (ix k)) (M 101) (mnS M (ix k))).1) else (-1000000001)
def nxPour (M : Mem) (k : Int32) : Nat → Int32 := if Rg 4 k then (if M 104 (ix k) = -1 then M 101 else (poS (rwS M (ix k)) (M 101) (mnS M (ix k))).2) else M 101
theorem X_pour {k : Int32} (hD : 4 ≤ D) (hRel : Rel M) (hR : ∀ M', Ag (scX ++ ldC 30) M M' → LR M' 30 (nxPour M k) → R (some (.int (anPour M k))) M') : Tr l G D mX7_pour [.ref (G.1 0), .int k] M R := by
  obtain ⟨d, rfl⟩ := dE (show 4 ≤ D by omega)
  have hL := hRel.1.1.1
  have hI := hRel.2.1.1
  have n1 : M 30 1 = nI (np (M 101)) := hL.1.1.trans hI.1.1
  have hp := hI.1.2
  unfold anPour nxPour at hR
  by_cases hc : Rg 4 k
  · simp only [if_pos hc] at hR
    obtain ⟨k, hk, rfl⟩ := hc.ex
    have xk := ix_nI (show k < 2 ^ 31 by omega)
    simp only [xk] at hR
    have hs := hRel.1.2.2.2.1 k (by omega)
    have s0 : M (70 + 2 * k) 0 = M 104 k := hs.1
    obtain ⟨n, hn, en⟩ := (hRel.2.2.2.2.1 k (by omega)).2
    have s1 : M (70 + 2 * k) 1 = nI n := hs.2.1.trans en
    have hSh : IsSh (70 + 2 * k) := by unfold IsSh; omega
    have emn : mnS M k = if n ≤ np (M 101) then n else np (M 101) := by show (if ix (M 105 k) ≤ _ then ix (M 105 k) else _) = _; rw [en, ix_nI (by omega)]
    rw [emn] at hR
    have loop : (∀ M', Ag [33] M M' → LR M' 30 (poS (rwS M k) (M 101) (if n ≤ np (M 101) then n else np (M 101))).2 → R (some (.int (poS (rwS M k) (M 101) (if n ≤ np (M 101) then n else np (M 101))).1)) M') → ∀ i, i ≤ np (M 101) → ∀ M', Ag [33] M M' → LR M' 30 (poS (rwS M k) (M 101) (if i ≤ n then i else n)).2 → At l G (d + 4) mX7_pour 32 [some (.ref (G.1 0)), none, some (.ref (G.1 (70 + 2 * k))), some (.int (poS (rwS M k) (M 101) (if i ≤ n then i else n)).1), some (.int (nI i)), none] [] M' R := by
      intro hR
      refine upL (fun i => ∀ M', Ag [33] M M' → LR M' 30 (poS (rwS M k) (M 101) (if i ≤ n then i else n)).2 → At l G (d + 4) mX7_pour 32 [some (.ref (G.1 0)), none, some (.ref (G.1 (70 + 2 * k))), some (.int (poS (rwS M k) (M 101) (if i ≤ n then i else n)).1), some (.int (nI i)), none] [] M' R) (np (M 101)) ?_ ?_
      · intro M' hA hL'
        have q : (if np (M 101) ≤ n then np (M 101) else n) = (if n ≤ np (M 101) then n else np (M 101)) := by
          by_cases a : np (M 101) ≤ n
          · rw [if_pos a]
            by_cases c : n ≤ np (M 101)
            · rw [if_pos c]; omega
            · rw [if_neg c]
          · rw [if_neg a, if_pos (by omega)]
        rw [q] at hL' ⊢
        refine bX7_pour_32 hSh ⟨fun _ => hR M' hA hL', fun h => absurd ?_ h⟩
        rw [hA 30 (by decide), n1]
        exact Int32.le_refl _
      · intro i hi ih M' hA hL'
        have m1 : M' (70 + 2 * k) 1 = nI n := by rw [hA _ (by simp; omega)]; exact s1
        have m2 : M' (70 + 2 * k + 1) = M (70 + 2 * k + 1) := hA _ (by simp; omega)
        refine bX7_pour_32 hSh ⟨fun h => absurd h ?_, fun _ => ⟨fun h => absurd h (Int32.not_lt.mpr (zl i (by omega))), fun _ => ⟨fun h => ?_, fun h => ⟨vpn ?_ (by decide), fun h2 => ?_, fun h2 => ?_⟩⟩⟩⟩
        · rw [hA 30 (by decide), n1, le_nI (by omega) (by omega)]; omega
        · rw [m1, le_nI (by omega) (by omega)] at h
          rw [p1]
          have q : (if i + 1 ≤ n then i + 1 else n) = (if i ≤ n then i else n) := by
            rw [if_neg (by omega)]
            by_cases a : i ≤ n
            · rw [if_pos a]; omega
            · rw [if_neg a]
          rw [← q] at hL' ⊢
          exact ih M' hA hL'
        all_goals rw [m1, le_nI (by omega) (by omega)] at h
        · omega
        all_goals have q0 : (if i ≤ n then i else n) = i := if_pos (by omega)
        all_goals have q1 : (if i + 1 ≤ n then i + 1 else n) = i + 1 := if_pos (by omega)
        all_goals have er : M (70 + 2 * k + 1) i = rwS M k i := hs.2.2 i (by omega)
        all_goals rw [m2, ix_nI (by omega), er] at h2
        all_goals rw [q1] at ih
        all_goals rw [q0] at hL' ⊢
        · rw [po_s, if_pos h2] at ih
          rw [p1]
          exact ih M' hA hL'
        · rw [po_s, if_neg h2] at ih
          have e33 : M' 33 i = (poS (rwS M k) (M 101) i).2 (12 + 4 * i) := hL'.2.2.2.1 i (by omega)
          rw [m2, ix_nI (by omega), er, mm_wi9, e33, p1]
          have hL2 := LR_ag (po_inv hI i (by omega)).2.1 hL' (i := i) (by omega) (wiS (rwS M k i) 99)
          refine ⟨vpn (by omega) (by decide), vpn (by omega) (by decide), fun h3 => ⟨vpn (by omega) (by decide), fun M1 e1 => ?_⟩, fun h3 => ⟨vpn (by omega) (by decide), fun M1 e1 => ?_⟩⟩
          · rw [if_pos h3] at ih
            rw [Int32.add_zero]
            rw [e1]
            exact ih _ (hA.ua (by decide) _) hL2
          · rw [if_neg h3] at ih
            rw [e1]
            exact ih _ (hA.ua (by decide) _) hL2
    refine tX7_pour ⟨fun h1 => absurd hc (fun hc => ?_), fun h2 => ⟨fun h3 => absurd hc (fun hc => ?_), fun h4 => ⟨vpn (by omega) (by decide), fun h5 => ?_, fun h6 => ?_⟩⟩⟩
    · simp (disch := omega) only [ne_eq, not_true_eq_false, Rg, tlt, tle, teq, tnI, ts1, tl0, tl1, tl2, tl3, tl4, tl5, tl6, tl7, tl8, tl9, tl10, tl11, tl12, tl13, tl14, tl15, tl16, tl24, tl30, tl33, tl60, tl84, tl96, tl99, tl100, tl200, tlm1, t44] at h1 hc <;> omega
    · simp (disch := omega) only [ne_eq, not_true_eq_false, Rg, tlt, tle, teq, tnI, ts1, tl0, tl1, tl2, tl3, tl4, tl5, tl6, tl7, tl8, tl9, tl10, tl11, tl12, tl13, tl14, tl15, tl16, tl24, tl30, tl33, tl60, tl84, tl96, tl99, tl100, tl200, tlm1, t44] at h3 hc <;> omega
    · rw [xk, s0] at h5
      rw [if_pos h5, if_pos h5] at hR
      exact hR M (Ag.rf _ _) hL
    · rw [xk, s0] at h6
      simp only [if_neg h6] at hR
      have := loop (fun M' hA => hR M' (hA.sub (by decide))) 0 (Nat.zero_le _) M (Ag.rf _ _)
      rw [if_pos (Nat.zero_le _)] at this
      rw [xk]
      exact this hL
  · simp only [if_neg hc] at hR
    have hB := hR M (Ag.rf _ _) hL
    refine tX7_pour ⟨fun h1 => hB, fun h2 => ⟨fun h3 => hB, fun h4 => absurd (show Rg 4 k from ?_) hc⟩⟩
    simp (disch := omega) only [ne_eq, not_true_eq_false, Rg, tlt, tle, teq, tnI, ts1, tl0, tl1, tl2, tl3, tl4, tl5, tl6, tl7, tl8, tl9, tl10, tl11, tl12, tl13, tl14, tl15, tl16, tl24, tl30, tl33, tl60, tl84, tl96, tl99, tl100, tl200, tlm1, t44] at h2 h4 ⊢ <;> omega
theorem M_pour {k : Int32} (hD : 4 ≤ D) (hIS : IS M) (hR : ∀ M', Ag scY M M' → M' 101 = nxPour M k → R (some (.int (anPour M k))) M') : Tr l G D mX8_pour [.ref (G.1 100), .int k] M R := by
  obtain ⟨d, rfl⟩ := dE (show 4 ≤ D by omega)
  have hI := hIS.1.1
  have m0 : M 101 0 = nI (np (M 101)) := hI.1.1
  have hp := hI.1.2
  unfold anPour nxPour at hR
  by_cases hc : Rg 4 k
  · simp only [if_pos hc] at hR
    obtain ⟨k, hk, rfl⟩ := hc.ex
    have xk := ix_nI (show k < 2 ^ 31 by omega)
    simp only [xk] at hR
    obtain ⟨n, hn, en⟩ := (hIS.2.2.2.1 k (by omega)).2
    have h104 := (hIS.2.2.2.1 k (by omega)).1
    have emn : mnS M k = if n ≤ np (M 101) then n else np (M 101) := by show (if ix (M 105 k) ≤ _ then ix (M 105 k) else _) = _; rw [en, ix_nI (by omega)]
    rw [emn] at hR
    have loop : ∀ c, c ≤ n → c ≤ np (M 101) → (c = n ∨ c = np (M 101)) → (∀ M', Ag [101] M M' → M' 101 = (poS (rwS M k) (M 101) c).2 → R (some (.int (poS (rwS M k) (M 101) c).1)) M') → ∀ i, i ≤ c → ∀ M', Ag [101] M M' → M' 101 = (poS (rwS M k) (M 101) i).2 → At l G (d + 4) mX8_pour 27 [some (.ref (G.1 100)), some (.int (nI k)), some (.int (poS (rwS M k) (M 101) i).1), some (.int (nI i)), none, none] [] M' R := by
      intro c c1 c2 c3 hR
      refine upL (fun i => ∀ M', Ag [101] M M' → M' 101 = (poS (rwS M k) (M 101) i).2 → At l G (d + 4) mX8_pour 27 [some (.ref (G.1 100)), some (.int (nI k)), some (.int (poS (rwS M k) (M 101) i).1), some (.int (nI i)), none, none] [] M' R) c ?_ ?_
      · intro M' hA e
        refine bX8_pour_27 ⟨vpn (by omega) (by decide), fun _ => hR M' hA e, fun h => ⟨fun _ => hR M' hA e, fun h2 => ?_⟩⟩
        rw [xk, hA 105 (by decide), en, le_nI (by omega) (by omega)] at h
        rw [e, po_n _ _ (by omega) _ (by omega), m0, le_nI (by omega) (by omega)] at h2
        omega
      · intro i hi ih M' hA e
        rw [po_s] at ih
        have hrow : M' 106 (ix (24 * nI k + nI i)) = rwS M k i := by rw [i24b (by omega) (by omega), ix_nI (by omega), hA 106 (by decide)]
        have hv : vp_in (10 + 4 * nI i + 2) 3084 := v2 (by omega)
        refine bX8_pour_27 ⟨vpn (by omega) (by decide), fun h => absurd h ?_, fun _ => ⟨fun h => absurd h ?_, fun _ => ⟨?_, fun h => ⟨hv, hv, hv, fun M1 e1 => ⟨fun _ => ?_, fun h2 => absurd rfl h2⟩⟩, fun h => ?_⟩⟩⟩
        · rw [xk, hA 105 (by decide), en, le_nI (by omega) (by omega)]; omega
        · rw [e, po_n _ _ (by omega) _ (by omega), m0, le_nI (by omega) (by omega)]; omega
        · rw [i24b (by omega) (by omega)]; exact vpn (by omega) (by decide)
        · rw [hrow] at h
          rw [if_pos h] at ih
          rw [e1, Int32.add_zero, p1]
          have eq : um M' 101 (ix (10 + 4 * nI i + 2)) (M' 101 (ix (10 + 4 * nI i + 2))) = M' := by
            funext a
            by_cases q : a = 101
            · rw [q, um_s]
              funext j
              by_cases q2 : j = ix (10 + 4 * nI i + 2)
              · rw [q2, pk_us]
              · rw [pk_un q2]
            · rw [um_n _ _ _ q]
          rw [eq]
          exact ih M' hA e
        · rw [hrow] at h
          rw [if_neg h] at ih
          rw [hrow, e2 (by omega), e, p1]
          have step : ∀ v : Int32, v = wiS (rwS M k i) 99 → (v = (poS (rwS M k) (M 101) i).2 (12 + 4 * i) → At l G (d + 4) mX8_pour 27 [some (.ref (G.1 100)), some (.int (nI k)), some (.int ((poS (rwS M k) (M 101) i).1 + 0)), some (.int (nI (i + 1))), none, none] [] (um M' 101 (12 + 4 * i) v) R) ∧ (¬ v = (poS (rwS M k) (M 101) i).2 (12 + 4 * i) → At l G (d + 4) mX8_pour 27 [some (.ref (G.1 100)), some (.int (nI k)), some (.int ((poS (rwS M k) (M 101) i).1 + 1)), some (.int (nI (i + 1))), none, none] [] (um M' 101 (12 + 4 * i) v) R) := by
            intro v ev
            subst ev
            refine ⟨fun h3 => ?_, fun h3 => ?_⟩
            · rw [if_pos h3] at ih
              rw [Int32.add_zero]
              exact ih _ (hA.ua (by decide) _) (by rw [um_s, e])
            · rw [if_neg h3] at ih
              exact ih _ (hA.ua (by decide) _) (by rw [um_s, e])
          refine ⟨fun h1 => ⟨fun h2 => ⟨hv, hv, fun M1 e1 => ?_⟩, fun h2 => ⟨hv, hv, ?_⟩⟩, fun h1 => ⟨hv, hv, ?_⟩⟩
          · rw [e1]
            exact step _ (by unfold wiS; rw [if_pos h1, if_pos h2])
          · exact step _ (by unfold wiS; rw [if_pos h1, if_neg h2])
          · exact step _ (by unfold wiS; rw [if_neg h1])
    refine tX8_pour ⟨fun h1 => ⟨fun h2 => ⟨vpn (by omega) (by decide), fun h3 => ?_, fun h4 => ?_⟩, fun h2 => absurd hc (fun hc => ?_)⟩, fun h1 => absurd hc (fun hc => ?_)⟩
    · rw [xk] at h3
      have e : ¬ M 104 k = -1 := fun e => by rw [e] at h3; exact absurd h3 (by decide)
      simp only [if_neg e] at hR
      by_cases q : n ≤ np (M 101)
      · simp only [if_pos q] at hR
        exact loop n (Nat.le_refl _) q (Or.inl rfl) (fun M' hA => hR M' (hA.sub (by decide))) 0 (Nat.zero_le _) M (Ag.rf _ _) rfl
      · simp only [if_neg q] at hR
        exact loop _ (by omega) (Nat.le_refl _) (Or.inr rfl) (fun M' hA => hR M' (hA.sub (by decide))) 0 (Nat.zero_le _) M (Ag.rf _ _) rfl
    · rw [xk] at h4
      have e : M 104 k = -1 := by
        rcases h104 with q | q | q
        · exact q
        · rw [q] at h4; exact absurd (by decide) h4
        · rw [q] at h4; exact absurd (by decide) h4
      simp only [if_pos e] at hR
      exact hR M (Ag.rf _ _) rfl
    · simp (disch := omega) only [ne_eq, not_true_eq_false, Rg, tlt, tle, teq, tnI, ts1, tl0, tl1, tl2, tl3, tl4, tl5, tl6, tl7, tl8, tl9, tl10, tl11, tl12, tl13, tl14, tl15, tl16, tl24, tl30, tl33, tl60, tl84, tl96, tl99, tl100, tl200, tlm1, t44] at h2 hc <;> omega
    · simp (disch := omega) only [ne_eq, not_true_eq_false, Rg, tlt, tle, teq, tnI, ts1, tl0, tl1, tl2, tl3, tl4, tl5, tl6, tl7, tl8, tl9, tl10, tl11, tl12, tl13, tl14, tl15, tl16, tl24, tl30, tl33, tl60, tl84, tl96, tl99, tl100, tl200, tlm1, t44] at h1 hc <;> omega
  · simp only [if_neg hc] at hR
    have hB := hR M (Ag.rf _ _) rfl
    refine tX8_pour ⟨fun h1 => ⟨fun h2 => absurd (show Rg 4 k from ?_) hc, fun h2 => hB⟩, fun h1 => hB⟩
    simp (disch := omega) only [ne_eq, not_true_eq_false, Rg, tlt, tle, teq, tnI, ts1, tl0, tl1, tl2, tl3, tl4, tl5, tl6, tl7, tl8, tl9, tl10, tl11, tl12, tl13, tl14, tl15, tl16, tl24, tl30, tl33, tl60, tl84, tl96, tl99, tl100, tl200, tlm1, t44] at h1 h2 ⊢ <;> omega
theorem mn_le {M : Mem} (h : Inv (M 101)) (k : Nat) : mnS M k ≤ 8 := by
  have := h.1.2
  show (if _ then _ else _) ≤ 8
  split <;> omega
theorem il_pour {M : Mem} (h : IL (M 101)) (k : Int32) : IL (nxPour M k) := by
  unfold nxPour
  split
  · split
    · exact h
    · exact il_of (po_inv h.1 _ (mn_le h.1 _)) (po_n _ _ (by omega) _ (mn_le h.1 _)) (po_n _ _ (by omega) _ (mn_le h.1 _)) h
  · exact h
theorem pour_n {M : Mem} (h : IL (M 101)) (k : Int32) {j : Nat} (hj : j < 10 ∨ 42 ≤ j) : nxPour M k j = M 101 j := by
  unfold nxPour
  split
  · split
    · rfl
    · exact po_n _ _ hj _ (mn_le h.1 _)
  · rfl
end
