-- arrives, inks, becomes
def arF (s : Nat → Int32) (k : Nat) (p : Int32) : Nat → Nat → Int32
  | _, 0 => -1000000005
  | t, f + 1 => if dysS t s (11 + 4 * k) = p then nI t else arF s k p (t + 1) f
theorem ar_s (s : Nat → Int32) (k : Nat) (p : Int32) (t f : Nat) : arF s k p t (f + 1) = if dysS t s (11 + 4 * k) = p then nI t else arF s k p (t + 1) f := rfl
theorem dys_1 (s : Nat → Int32) : dysS 1 s = dayS s := rfl
section
variable {l : Launch} {G : GT} {D : Nat} {M : Mem} {R : Option Value → Mem → Prop} {b : Nat} {s : Nat → Int32}
def anArrives (s : Nat → Int32) (k p : Int32) : Int32 := if Rg (np s) k ∧ Rg 10 p then arF s (ix k) p 0 201 else (-1000000001)
theorem X_arrives {k p : Int32} (hD : 36 ≤ D) (hRel : Rel M) (hR : ∀ M', Ag scX M M' → R (some (.int (anArrives (M 101) k p))) M') : Tr l G D mX7_arrives [.ref (G.1 0), .int k, .int p] M R := by
  obtain ⟨d, rfl⟩ := dE (show 4 ≤ D by omega)
  have hL := hRel.1.1.1
  have hI := hRel.2.1.1
  have n1 : M 30 1 = nI (np (M 101)) := hL.1.1.trans hI.1.1
  have n6 : M 30 6 = nI (nw (M 101)) := hL.1.2.1.trans hI.2.1.1
  have hp := hI.1.2
  have hw := hI.2.1.2
  have hW := hI.2.1
  unfold anArrives at hR
  by_cases hc : Rg (np (M 101)) k ∧ Rg 10 p
  · simp only [if_pos hc] at hR
    obtain ⟨k, hk, rfl⟩ := hc.1.ex
    have xk := ix_nI (show k < 2 ^ 31 by omega)
    try simp only [xk] at hR
    have lb : IsLd 40 := Or.inr (Or.inl rfl)
    have loop : ∀ i, i ≤ 200 → ∀ M', Ag scX M M' → XS M' 40 (dysS i (M 101)) → (∀ M'', Ag scX M M'' → R (some (.int (arF (M 101) k p i (201 - i)))) M'') → At l G (d + 4) mX7_arrives 31 [some (.ref (G.1 0)), some (.int (nI k)), some (.int p), some (.int (nI i))] [] M' R := by
      refine upL (fun i => ∀ M', Ag scX M M' → XS M' 40 (dysS i (M 101)) → (∀ M'', Ag scX M M'' → R (some (.int (arF (M 101) k p i (201 - i)))) M'') → At l G (d + 4) mX7_arrives 31 [some (.ref (G.1 0)), some (.int (nI k)), some (.int p), some (.int (nI i))] [] M' R) 200 ?_ ?_
      · intro M' hA hX' hR'
        have l2 : M' 42 k = dysS 200 (M 101) (11 + 4 * k) := hX'.1.2.2.1 k (by omega)
        refine bX7_arrives_31 ⟨fun _ => ⟨vpn (by omega) (by decide), fun h => ?_, fun h => ?_⟩, fun h => absurd (by decide : (200 : Int32) ≤ nI 200) h⟩
        · rw [xk, l2] at h
          have := hR' M' hA
          rw [show 201 - 200 = 0 + 1 from rfl, ar_s, if_pos h] at this
          exact this
        · rw [xk, l2] at h
          have := hR' M' hA
          rw [show 201 - 200 = 0 + 1 from rfl, ar_s, if_neg h] at this
          exact this
      · intro i hi ih M' hA hX' hR'
        have l2 : M' 42 k = dysS i (M 101) (11 + 4 * k) := hX'.1.2.2.1 k (by omega)
        refine bX7_arrives_31 ⟨fun h => absurd h (by rw [show (200 : Int32) = nI 200 from rfl, le_nI (by omega) (by omega)]; omega), fun _ => ⟨vpn (by omega) (by decide), fun h => ?_, fun h => ?_⟩⟩
        · rw [xk, l2] at h
          have := hR' M' hA
          rw [show 201 - i = (200 - i) + 1 by omega, ar_s, if_pos h] at this
          exact this
        · rw [xk, l2] at h
          refine sX1_passDays (n := 1) lb (by omega) (by decide) hX' (fun M2 hA2 hX2 => kV_i (bX7_arrives_61 ?_))
          rw [p1]
          refine ih M2 (hA.tr (hA2.sub scx40)) (by rw [dys_s, ← dys_1]; exact hX2) (fun M3 hA3 => ?_)
          have := hR' M3 hA3
          rw [show 201 - i = (201 - (i + 1)) + 1 by omega, ar_s, if_neg h] at this
          exact this
    refine tX7_arrives ⟨fun h1 => (absurd hc (fun hc => by simp (disch := omega) only [n1, n6, ne_eq, not_true_eq_false, Rg, tlt, tle, teq, tnI, ts1, tl0, tl1, tl2, tl3, tl4, tl5, tl6, tl7, tl8, tl9, tl10, tl11, tl12, tl13, tl14, tl15, tl16, tl24, tl30, tl33, tl60, tl84, tl96, tl99, tl100, tl200, tlm1, t44] at h1 hc <;> omega)), fun h2 => ⟨fun h3 => (absurd hc (fun hc => by simp (disch := omega) only [n1, n6, ne_eq, not_true_eq_false, Rg, tlt, tle, teq, tnI, ts1, tl0, tl1, tl2, tl3, tl4, tl5, tl6, tl7, tl8, tl9, tl10, tl11, tl12, tl13, tl14, tl15, tl16, tl24, tl30, tl33, tl60, tl84, tl96, tl99, tl100, tl200, tlm1, t44] at h2 h3 hc <;> omega)), fun h4 => ⟨fun h5 => (absurd hc (fun hc => by simp (disch := omega) only [n1, n6, ne_eq, not_true_eq_false, Rg, tlt, tle, teq, tnI, ts1, tl0, tl1, tl2, tl3, tl4, tl5, tl6, tl7, tl8, tl9, tl10, tl11, tl12, tl13, tl14, tl15, tl16, tl24, tl30, tl33, tl60, tl84, tl96, tl99, tl100, tl200, tlm1, t44] at h2 h4 h5 hc <;> omega)), fun h6 => ⟨fun h7 => (absurd hc (fun hc => by simp (disch := omega) only [n1, n6, ne_eq, not_true_eq_false, Rg, tlt, tle, teq, tnI, ts1, tl0, tl1, tl2, tl3, tl4, tl5, tl6, tl7, tl8, tl9, tl10, tl11, tl12, tl13, tl14, tl15, tl16, tl24, tl30, tl33, tl60, tl84, tl96, tl99, tl100, tl200, tlm1, t44] at h2 h4 h6 h7 hc <;> omega)), fun h8 => ?_⟩⟩⟩⟩
    refine sX1_take lb ld30 (by decide) (by omega) hL (fun M1 hA1 hL1 => kV_i (bX7_arrives_29 ?_))
    have hX1 := hRel.xs.to (b := 40) lb hA1 rfl (fun _ _ => rfl) hL1 hI
    exact loop 0 (by omega) M1 (hA1.sub scx40) hX1 hR
  · simp only [if_neg hc] at hR
    exact tX7_arrives ⟨fun h1 => (hR M (Ag.rf _ _)), fun h2 => ⟨fun h3 => (hR M (Ag.rf _ _)), fun h4 => ⟨fun h5 => (hR M (Ag.rf _ _)), fun h6 => ⟨fun h7 => (hR M (Ag.rf _ _)), fun h8 => ((hc (by simp (disch := omega) only [n1, n6, ne_eq, not_true_eq_false, Rg, tlt, tle, teq, tnI, ts1, tl0, tl1, tl2, tl3, tl4, tl5, tl6, tl7, tl8, tl9, tl10, tl11, tl12, tl13, tl14, tl15, tl16, tl24, tl30, tl33, tl60, tl84, tl96, tl99, tl100, tl200, tlm1, t44] at h2 h4 h6 h8 ⊢ <;> omega)).elim)⟩⟩⟩⟩
theorem M_arrives {k p : Int32} (hD : 36 ≤ D) (hIS : IS M) (hR : ∀ M', Ag scY M M' → M' 101 = M 101 → R (some (.int (anArrives (M 101) k p))) M') : Tr l G D mX8_arrives [.ref (G.1 100), .int k, .int p] M R := by
  obtain ⟨d, rfl⟩ := dE (show 4 ≤ D by omega)
  have hI := hIS.1.1
  have m0 : M 101 0 = nI (np (M 101)) := hI.1.1
  have m3 : M 101 3 = nI (nw (M 101)) := hI.2.1.1
  have hp := hI.1.2
  have hw := hI.2.1.2
  have hW := hI.2.1
  unfold anArrives at hR
  by_cases hc : Rg (np (M 101)) k ∧ Rg 10 p
  · simp only [if_pos hc] at hR
    obtain ⟨k, hk, rfl⟩ := hc.1.ex
    have xk := ix_nI (show k < 2 ^ 31 by omega)
    try simp only [xk] at hR
    have back : ∀ M2, Ag scY M M2 → (∀ j, j < 84 → M2 113 j = M 101 j) → (∀ j, 84 ≤ j → M2 101 j = M 101 j) → ∀ v : Int32, (∀ M', Ag scY M M' → M' 101 = M 101 → R (some (.int (if 200 < v then -1000000005 else v))) M') → Tr l G (d + 3) mX8_laysBack [.ref (G.1 100)] M2 (kV fun M' => At l G (d + 4) mX8_arrives 55 [none, none, none, some (.int v)] [] M' R) := by
      intro M2 hA b1 b2 v hv
      refine sX8_laysBack (by omega) (fun M3 hA3 h3 => kV_i (bX8_arrives_55 ?_))
      have hR3 := hv M3 (hA.tr (hA3.sub (by decide))) (back_is b1 b2 h3)
      exact ⟨fun h => by rw [if_pos h] at hR3; exact hR3, fun h => by rw [if_neg h] at hR3; exact hR3⟩
    have loop : ∀ i, i ≤ 201 → ∀ M', Ag scY M M' → (∀ j, j < 84 → M' 113 j = M 101 j) → M' 101 = dysS i (M 101) → (∀ M'', Ag scY M M'' → M'' 101 = M 101 → R (some (.int (arF (M 101) k p i (201 - i)))) M'') → At l G (d + 4) mX8_arrives 24 [some (.ref (G.1 100)), some (.int (nI k)), some (.int p), some (.int (nI i))] [] M' R := by
      refine upL (fun i => ∀ M', Ag scY M M' → (∀ j, j < 84 → M' 113 j = M 101 j) → M' 101 = dysS i (M 101) → (∀ M'', Ag scY M M'' → M'' 101 = M 101 → R (some (.int (arF (M 101) k p i (201 - i)))) M'') → At l G (d + 4) mX8_arrives 24 [some (.ref (G.1 100)), some (.int (nI k)), some (.int p), some (.int (nI i))] [] M' R) 201 ?_ ?_
      · intro M' hA b1 he hR'
        have b2 : ∀ j, 84 ≤ j → M' 101 j = M 101 j := fun j hj => by rw [he]; exact (dys_keep hI.1 hI.2.1 201).2.2.2.2.2.1 j hj
        have h200 : (200 : Int32) < nI 201 := by decide
        refine bX8_arrives_24 ⟨fun _ => back M' hA b1 b2 _ (fun M2 hA2 e2 => ?_), fun h => absurd h200 h⟩
        rw [if_pos h200]
        exact hR' M2 hA2 e2
      · intro i hi ih M' hA b1 he hR'
        have b2 : ∀ j, 84 ≤ j → M' 101 j = M 101 j := fun j hj => by rw [he]; exact (dys_keep hI.1 hI.2.1 i).2.2.2.2.2.1 j hj
        have h200 : ¬ (200 : Int32) < nI i := by rw [show (200 : Int32) = nI 200 from rfl, lt_nI (by omega) (by omega)]; omega
        have ii := inv_dys hI i
        refine bX8_arrives_24 ⟨fun h => absurd h h200, fun _ => ⟨v1 (by omega), fun h => ?_, fun h => ?_⟩⟩
        · rw [e1 (by omega), he] at h
          refine back M' hA b1 b2 _ (fun M2 hA2 e2 => ?_)
          rw [if_neg h200]
          have := hR' M2 hA2 e2
          rw [show 201 - i = (200 - i) + 1 by omega, ar_s, if_pos h] at this
          exact this
        · rw [e1 (by omega), he] at h
          refine sX8_goesOn (by omega) (by rw [he]; exact ii.1) (by rw [he]; exact ii.2.1) (by rw [he]; exact ii.2.2.1) (fun M2 hA2 h2 => kV_i (bX8_arrives_45 ?_))
          rw [p1]
          refine ih M2 (hA.tr (hA2.sub (by decide))) (fun j hj => by rw [hA2 113 (by decide)]; exact b1 j hj) (by rw [h2, he, dys_s]) (fun M3 hA3 e3 => ?_)
          have := hR' M3 hA3 e3
          rw [show 201 - i = (201 - (i + 1)) + 1 by omega, ar_s, if_neg h] at this
          exact this
    refine tX8_arrives ⟨fun h1 => ⟨fun h2 => ⟨fun h3 => ⟨fun h4 => ?_, fun h5 => (absurd hc (fun hc => by simp (disch := omega) only [m0, m3, ne_eq, not_true_eq_false, Rg, tlt, tle, teq, tnI, ts1, tl0, tl1, tl2, tl3, tl4, tl5, tl6, tl7, tl8, tl9, tl10, tl11, tl12, tl13, tl14, tl15, tl16, tl24, tl30, tl33, tl60, tl84, tl96, tl99, tl100, tl200, tlm1, t44] at h1 h2 h3 h5 hc <;> omega))⟩, fun h6 => (absurd hc (fun hc => by simp (disch := omega) only [m0, m3, ne_eq, not_true_eq_false, Rg, tlt, tle, teq, tnI, ts1, tl0, tl1, tl2, tl3, tl4, tl5, tl6, tl7, tl8, tl9, tl10, tl11, tl12, tl13, tl14, tl15, tl16, tl24, tl30, tl33, tl60, tl84, tl96, tl99, tl100, tl200, tlm1, t44] at h1 h2 h6 hc <;> omega))⟩, fun h7 => (absurd hc (fun hc => by simp (disch := omega) only [m0, m3, ne_eq, not_true_eq_false, Rg, tlt, tle, teq, tnI, ts1, tl0, tl1, tl2, tl3, tl4, tl5, tl6, tl7, tl8, tl9, tl10, tl11, tl12, tl13, tl14, tl15, tl16, tl24, tl30, tl33, tl60, tl84, tl96, tl99, tl100, tl200, tlm1, t44] at h1 h7 hc <;> omega))⟩, fun h8 => (absurd hc (fun hc => by simp (disch := omega) only [m0, m3, ne_eq, not_true_eq_false, Rg, tlt, tle, teq, tnI, ts1, tl0, tl1, tl2, tl3, tl4, tl5, tl6, tl7, tl8, tl9, tl10, tl11, tl12, tl13, tl14, tl15, tl16, tl24, tl30, tl33, tl60, tl84, tl96, tl99, tl100, tl200, tlm1, t44] at h8 hc <;> omega))⟩
    refine sX8_laysBy (by omega) (fun M1 hA1 h1 => kV_i (bX8_arrives_22 ?_))
    exact loop 0 (by omega) M1 (hA1.sub (by decide)) h1 (hA1 101 (by decide)) hR
  · simp only [if_neg hc] at hR
    exact tX8_arrives ⟨fun h1 => ⟨fun h2 => ⟨fun h3 => ⟨fun h4 => ((hc (by simp (disch := omega) only [m0, m3, ne_eq, not_true_eq_false, Rg, tlt, tle, teq, tnI, ts1, tl0, tl1, tl2, tl3, tl4, tl5, tl6, tl7, tl8, tl9, tl10, tl11, tl12, tl13, tl14, tl15, tl16, tl24, tl30, tl33, tl60, tl84, tl96, tl99, tl100, tl200, tlm1, t44] at h1 h2 h3 h4 ⊢ <;> omega)).elim), fun h5 => ((hR M (Ag.rf _ _) rfl))⟩, fun h6 => ((hR M (Ag.rf _ _) rfl))⟩, fun h7 => ((hR M (Ag.rf _ _) rfl))⟩, fun h8 => ((hR M (Ag.rf _ _) rfl))⟩
end
