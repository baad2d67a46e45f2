-- slots: item
theorem i24 {k j : Nat} (hk : k < 5) (hj : j < 24) : 24 * nI k + nI j = nI (24 * k + j) := by
  have : ∀ k, k < 5 → ∀ j, j < 24 → 24 * nI k + nI j = nI (24 * k + j) := by decide +kernel
  exact this k hk j hj
section
variable {l : Launch} {G : GT} {D : Nat} {M : Mem} {R : Option Value → Mem → Prop} {b : Nat} {s : Nat → Int32}
def anItem (M : Mem) (k i : Int32) : Int32 := if Rg 5 k then (if M 107 (ix k) = 0 then (-1000000011) else if M 107 (ix k) = 2 then (if Rg (ix (M 110 (ix k))) i then (if M 111 (24 * ix k + ix i) = (-1000000005) then (-1000000012) else M 111 (24 * ix k + ix i)) else (-1000000013)) else (-1000000012)) else (-1000000001)
theorem X_item {k i : Int32} (hD : 8 ≤ D) (hRel : Rel M) (hR : ∀ M', Ag scX M M' → R (some (.int (anItem M k i))) M') : Tr l G D mX7_item [.ref (G.1 0), .int k, .int i] M R := by
  obtain ⟨d, rfl⟩ := dE (show 4 ≤ D by omega)
  have hL := hRel.1.1.1
  have hI := hRel.2.1.1
  have n1 : M 30 1 = nI (np (M 101)) := hL.1.1.trans hI.1.1
  have n6 : M 30 6 = nI (nw (M 101)) := hL.1.2.1.trans hI.2.1.1
  have hp := hI.1.2
  have hw := hI.2.1.2
  have hW := hI.2.1
  unfold anItem at hR
  by_cases hc : Rg 5 k
  · simp only [if_pos hc] at hR
    obtain ⟨k, hk, rfl⟩ := hc.ex
    have xk := ix_nI (show k < 2 ^ 31 by omega)
    try simp only [xk] at hR
    have ho := hRel.1.2.2.2.2.1 k (by omega)
    have s0 : M (80 + 3 * k) 0 = M 107 k := ho.1
    obtain ⟨n, hn, en⟩ := (hRel.2.2.2.2.2.1 k (by omega)).2
    rw [en, ix_nI (show n < 2 ^ 31 by omega)] at hR
    have key : M 107 k = 2 → M (80 + 3 * k + 1) 1 = nI n ∧ ∀ i, i < 24 → M (80 + 3 * k + 1 + 1) i = M 111 (24 * k + i) := fun h => ⟨(ho.2.2.1 h).1.trans en, (ho.2.2.1 h).2⟩
    have hr : M 107 k = 2 → ¬ i < 0 → ¬ M (80 + 3 * k + 1) 1 ≤ i → ∃ j, j < n ∧ i = nI j := fun h h1 h2 => by
      rw [(key h).1] at h2
      exact Rg.ex (n := n) (v := i) (by simp (disch := omega) only [ne_eq, not_true_eq_false, Rg, tlt, tle, teq, tnI, ts1, tl0, tl1, tl2, tl3, tl4, tl5, tl6, tl7, tl8, tl9, tl10, tl11, tl12, tl13, tl14, tl15, tl16, tl24, tl30, tl33, tl60, tl84, tl96, tl99, tl100, tl200, tlm1, t44] at h1 h2 ⊢ <;> omega)
    refine tX7_item ⟨fun h1 => (absurd hc (fun hc => by simp (disch := omega) only [n1, n6, ne_eq, not_true_eq_false, Rg, tlt, tle, teq, tnI, ts1, tl0, tl1, tl2, tl3, tl4, tl5, tl6, tl7, tl8, tl9, tl10, tl11, tl12, tl13, tl14, tl15, tl16, tl24, tl30, tl33, tl60, tl84, tl96, tl99, tl100, tl200, tlm1, t44] at h1 hc <;> omega)), fun h2 => ⟨fun h3 => (absurd hc (fun hc => by simp (disch := omega) only [n1, n6, ne_eq, not_true_eq_false, Rg, tlt, tle, teq, tnI, ts1, tl0, tl1, tl2, tl3, tl4, tl5, tl6, tl7, tl8, tl9, tl10, tl11, tl12, tl13, tl14, tl15, tl16, tl24, tl30, tl33, tl60, tl84, tl96, tl99, tl100, tl200, tlm1, t44] at h2 h3 hc <;> omega)), fun h4 => ⟨?_, fun h5 => ?_, fun h6 => ⟨fun h7 => ⟨fun h8 => ?_, fun h9 => ⟨fun h10 => ?_, fun h11 => ⟨fun h12 => ?_, fun h13 => ⟨fun h14 => ?_, fun h15 => ⟨?_, fun h16 => ?_, fun h17 => ⟨?_, ?_⟩⟩⟩⟩⟩⟩, fun h18 => ?_⟩⟩⟩⟩
    all_goals rw [xk, s0] at *
    · exact vpn (by omega) (by decide)
    · rw [if_pos h5] at hR; exact hR M (Ag.rf _ _)
    · rw [if_neg h6, if_pos h7, if_neg (fun q => by simp (disch := omega) only [ne_eq, not_true_eq_false, Rg, tlt, tle, teq, tnI, ts1, tl0, tl1, tl2, tl3, tl4, tl5, tl6, tl7, tl8, tl9, tl10, tl11, tl12, tl13, tl14, tl15, tl16, tl24, tl30, tl33, tl60, tl84, tl96, tl99, tl100, tl200, tlm1, t44] at h8 q <;> omega)] at hR; exact hR M (Ag.rf _ _)
    · rw [(key h7).1] at h10
      rw [if_neg h6, if_pos h7, if_neg (fun q => by simp (disch := omega) only [ne_eq, not_true_eq_false, Rg, tlt, tle, teq, tnI, ts1, tl0, tl1, tl2, tl3, tl4, tl5, tl6, tl7, tl8, tl9, tl10, tl11, tl12, tl13, tl14, tl15, tl16, tl24, tl30, tl33, tl60, tl84, tl96, tl99, tl100, tl200, tlm1, t44] at h10 q <;> omega)] at hR; exact hR M (Ag.rf _ _)
    · exact absurd h12 h9
    · exact absurd h14 h11
    · obtain ⟨j, hj, rfl⟩ := hr h7 h9 h11
      exact vpn (by omega) (by decide)
    · obtain ⟨j, hj, rfl⟩ := hr h7 h9 h11
      rw [ix_nI (by omega), (key h7).2 j (by omega)] at h16
      rw [if_neg h6, if_pos h7, if_pos (Rg.of hj (by omega)), ix_nI (by omega), if_pos h16] at hR
      exact hR M (Ag.rf _ _)
    · obtain ⟨j, hj, rfl⟩ := hr h7 h9 h11
      exact vpn (by omega) (by decide)
    · obtain ⟨j, hj, rfl⟩ := hr h7 h9 h11
      rw [ix_nI (by omega), (key h7).2 j (by omega)] at h17
      rw [if_neg h6, if_pos h7, if_pos (Rg.of hj (by omega)), ix_nI (by omega), if_neg h17] at hR
      rw [ix_nI (by omega), (key h7).2 j (by omega)]
      exact hR M (Ag.rf _ _)
    · rw [if_neg h6, if_neg h18] at hR; exact hR M (Ag.rf _ _)
  · simp only [if_neg hc] at hR
    exact tX7_item ⟨fun h1 => (hR M (Ag.rf _ _)), fun h2 => ⟨fun h3 => (hR M (Ag.rf _ _)), fun h4 => ⟨((hc (by simp (disch := omega) only [n1, n6, ne_eq, not_true_eq_false, Rg, tlt, tle, teq, tnI, ts1, tl0, tl1, tl2, tl3, tl4, tl5, tl6, tl7, tl8, tl9, tl10, tl11, tl12, tl13, tl14, tl15, tl16, tl24, tl30, tl33, tl60, tl84, tl96, tl99, tl100, tl200, tlm1, t44] at h2 h4 ⊢ <;> omega)).elim), fun h5 => ((hc (by simp (disch := omega) only [n1, n6, ne_eq, not_true_eq_false, Rg, tlt, tle, teq, tnI, ts1, tl0, tl1, tl2, tl3, tl4, tl5, tl6, tl7, tl8, tl9, tl10, tl11, tl12, tl13, tl14, tl15, tl16, tl24, tl30, tl33, tl60, tl84, tl96, tl99, tl100, tl200, tlm1, t44] at h2 h4 h5 ⊢ <;> omega)).elim), fun h6 => ⟨fun h7 => ⟨fun h8 => ((hc (by simp (disch := omega) only [n1, n6, ne_eq, not_true_eq_false, Rg, tlt, tle, teq, tnI, ts1, tl0, tl1, tl2, tl3, tl4, tl5, tl6, tl7, tl8, tl9, tl10, tl11, tl12, tl13, tl14, tl15, tl16, tl24, tl30, tl33, tl60, tl84, tl96, tl99, tl100, tl200, tlm1, t44] at h2 h4 h6 h7 h8 ⊢ <;> omega)).elim), fun h9 => ⟨fun h10 => ((hc (by simp (disch := omega) only [n1, n6, ne_eq, not_true_eq_false, Rg, tlt, tle, teq, tnI, ts1, tl0, tl1, tl2, tl3, tl4, tl5, tl6, tl7, tl8, tl9, tl10, tl11, tl12, tl13, tl14, tl15, tl16, tl24, tl30, tl33, tl60, tl84, tl96, tl99, tl100, tl200, tlm1, t44] at h2 h4 h6 h7 h9 h10 ⊢ <;> omega)).elim), fun h11 => ⟨fun h12 => ((hc (by simp (disch := omega) only [n1, n6, ne_eq, not_true_eq_false, Rg, tlt, tle, teq, tnI, ts1, tl0, tl1, tl2, tl3, tl4, tl5, tl6, tl7, tl8, tl9, tl10, tl11, tl12, tl13, tl14, tl15, tl16, tl24, tl30, tl33, tl60, tl84, tl96, tl99, tl100, tl200, tlm1, t44] at h2 h4 h6 h7 h9 h11 h12 ⊢ <;> omega)).elim), fun h13 => ⟨fun h14 => ((hc (by simp (disch := omega) only [n1, n6, ne_eq, not_true_eq_false, Rg, tlt, tle, teq, tnI, ts1, tl0, tl1, tl2, tl3, tl4, tl5, tl6, tl7, tl8, tl9, tl10, tl11, tl12, tl13, tl14, tl15, tl16, tl24, tl30, tl33, tl60, tl84, tl96, tl99, tl100, tl200, tlm1, t44] at h2 h4 h6 h7 h9 h11 h13 h14 ⊢ <;> omega)).elim), fun h15 => ⟨((hc (by simp (disch := omega) only [n1, n6, ne_eq, not_true_eq_false, Rg, tlt, tle, teq, tnI, ts1, tl0, tl1, tl2, tl3, tl4, tl5, tl6, tl7, tl8, tl9, tl10, tl11, tl12, tl13, tl14, tl15, tl16, tl24, tl30, tl33, tl60, tl84, tl96, tl99, tl100, tl200, tlm1, t44] at h2 h4 h6 h7 h9 h11 h13 h15 ⊢ <;> omega)).elim), fun h16 => ((hc (by simp (disch := omega) only [n1, n6, ne_eq, not_true_eq_false, Rg, tlt, tle, teq, tnI, ts1, tl0, tl1, tl2, tl3, tl4, tl5, tl6, tl7, tl8, tl9, tl10, tl11, tl12, tl13, tl14, tl15, tl16, tl24, tl30, tl33, tl60, tl84, tl96, tl99, tl100, tl200, tlm1, t44] at h2 h4 h6 h7 h9 h11 h13 h15 h16 ⊢ <;> omega)).elim), fun h17 => ⟨((hc (by simp (disch := omega) only [n1, n6, ne_eq, not_true_eq_false, Rg, tlt, tle, teq, tnI, ts1, tl0, tl1, tl2, tl3, tl4, tl5, tl6, tl7, tl8, tl9, tl10, tl11, tl12, tl13, tl14, tl15, tl16, tl24, tl30, tl33, tl60, tl84, tl96, tl99, tl100, tl200, tlm1, t44] at h2 h4 h6 h7 h9 h11 h13 h15 h17 ⊢ <;> omega)).elim), ((hc (by simp (disch := omega) only [n1, n6, ne_eq, not_true_eq_false, Rg, tlt, tle, teq, tnI, ts1, tl0, tl1, tl2, tl3, tl4, tl5, tl6, tl7, tl8, tl9, tl10, tl11, tl12, tl13, tl14, tl15, tl16, tl24, tl30, tl33, tl60, tl84, tl96, tl99, tl100, tl200, tlm1, t44] at h2 h4 h6 h7 h9 h11 h13 h15 h17 ⊢ <;> omega)).elim)⟩⟩⟩⟩⟩⟩, fun h18 => ((hc (by simp (disch := omega) only [n1, n6, ne_eq, not_true_eq_false, Rg, tlt, tle, teq, tnI, ts1, tl0, tl1, tl2, tl3, tl4, tl5, tl6, tl7, tl8, tl9, tl10, tl11, tl12, tl13, tl14, tl15, tl16, tl24, tl30, tl33, tl60, tl84, tl96, tl99, tl100, tl200, tlm1, t44] at h2 h4 h6 h18 ⊢ <;> omega)).elim)⟩⟩⟩⟩
theorem M_item {k i : Int32} (hD : 8 ≤ D) (hIS : IS M) (hR : ∀ M', Ag scY M M' → M' 101 = M 101 → R (some (.int (anItem M k i))) M') : Tr l G D mX8_item [.ref (G.1 100), .int k, .int i] M R := by
  obtain ⟨d, rfl⟩ := dE (show 4 ≤ D by omega)
  have hI := hIS.1.1
  have m0 : M 101 0 = nI (np (M 101)) := hI.1.1
  have m3 : M 101 3 = nI (nw (M 101)) := hI.2.1.1
  have hp := hI.1.2
  have hw := hI.2.1.2
  have hW := hI.2.1
  unfold anItem at hR
  by_cases hc : Rg 5 k
  · simp only [if_pos hc] at hR
    obtain ⟨k, hk, rfl⟩ := hc.ex
    have xk := ix_nI (show k < 2 ^ 31 by omega)
    try simp only [xk] at hR
    have n2 : ¬ (2 : Int32) = 0 := by decide
    obtain ⟨n, hn, en⟩ := (hIS.2.2.2.2.1 k (by omega)).2
    rw [en, ix_nI (show n < 2 ^ 31 by omega)] at hR
    have hr : 0 ≤ i → i ≤ M 110 k - 1 → ∃ j, j < n ∧ i = nI j := fun h1 h2 => by
      rw [en] at h2
      exact Rg.ex (n := n) (v := i) (by simp (disch := omega) only [ne_eq, not_true_eq_false, Rg, tlt, tle, teq, tnI, ts1, tl0, tl1, tl2, tl3, tl4, tl5, tl6, tl7, tl8, tl9, tl10, tl11, tl12, tl13, tl14, tl15, tl16, tl24, tl30, tl33, tl60, tl84, tl96, tl99, tl100, tl200, tlm1, t44] at h1 h2 ⊢ <;> omega)
    have h107 : M 107 k = 2 → ¬ M 107 k = 0 := fun h => by rw [h]; exact n2
    refine tX8_item ⟨fun h1 => ⟨fun h2 => ⟨?_, fun h3 => ⟨?_, fun h4 => ⟨fun h5 => ⟨?_, fun h6 => ?_, fun h7 => ?_⟩, fun h8 => ?_⟩, fun h9 => ?_⟩, fun h10 => ⟨?_, fun h11 => ?_, fun h12 => ?_⟩⟩, fun h13 => (absurd hc (fun hc => by simp (disch := omega) only [m0, m3, ne_eq, not_true_eq_false, Rg, tlt, tle, teq, tnI, ts1, tl0, tl1, tl2, tl3, tl4, tl5, tl6, tl7, tl8, tl9, tl10, tl11, tl12, tl13, tl14, tl15, tl16, tl24, tl30, tl33, tl60, tl84, tl96, tl99, tl100, tl200, tlm1, t44] at h1 h13 hc <;> omega))⟩, fun h14 => (absurd hc (fun hc => by simp (disch := omega) only [m0, m3, ne_eq, not_true_eq_false, Rg, tlt, tle, teq, tnI, ts1, tl0, tl1, tl2, tl3, tl4, tl5, tl6, tl7, tl8, tl9, tl10, tl11, tl12, tl13, tl14, tl15, tl16, tl24, tl30, tl33, tl60, tl84, tl96, tl99, tl100, tl200, tlm1, t44] at h14 hc <;> omega))⟩
    all_goals rw [xk] at *
    · exact vpn (by omega) (by decide)
    · exact vpn (by omega) (by decide)
    · obtain ⟨j, hj, rfl⟩ := hr h4 h5
      rw [i24 (by omega) (by omega)]
      exact vpn (by omega) (by decide)
    · obtain ⟨j, hj, rfl⟩ := hr h4 h5
      rw [i24 (by omega) (by omega), ix_nI (by omega)] at h6
      rw [if_neg (h107 h3), if_pos h3, if_pos (Rg.of hj (by omega)), ix_nI (by omega), if_pos h6] at hR
      exact hR M (Ag.rf _ _) rfl
    · obtain ⟨j, hj, rfl⟩ := hr h4 h5
      rw [i24 (by omega) (by omega), ix_nI (by omega)] at h7 ⊢
      rw [if_neg (h107 h3), if_pos h3, if_pos (Rg.of hj (by omega)), ix_nI (by omega), if_neg h7] at hR
      exact hR M (Ag.rf _ _) rfl
    · rw [en] at h8
      rw [if_neg (h107 h3), if_pos h3, if_neg (fun q => by simp (disch := omega) only [ne_eq, not_true_eq_false, Rg, tlt, tle, teq, tnI, ts1, tl0, tl1, tl2, tl3, tl4, tl5, tl6, tl7, tl8, tl9, tl10, tl11, tl12, tl13, tl14, tl15, tl16, tl24, tl30, tl33, tl60, tl84, tl96, tl99, tl100, tl200, tlm1, t44] at h8 q <;> omega)] at hR; exact hR M (Ag.rf _ _) rfl
    · rw [if_neg (h107 h3), if_pos h3, if_neg (fun q => by simp (disch := omega) only [ne_eq, not_true_eq_false, Rg, tlt, tle, teq, tnI, ts1, tl0, tl1, tl2, tl3, tl4, tl5, tl6, tl7, tl8, tl9, tl10, tl11, tl12, tl13, tl14, tl15, tl16, tl24, tl30, tl33, tl60, tl84, tl96, tl99, tl100, tl200, tlm1, t44] at h9 q <;> omega)] at hR; exact hR M (Ag.rf _ _) rfl
    · exact vpn (by omega) (by decide)
    · rw [if_pos h11] at hR; exact hR M (Ag.rf _ _) rfl
    · rw [if_neg h12, if_neg h10] at hR; exact hR M (Ag.rf _ _) rfl
  · simp only [if_neg hc] at hR
    exact tX8_item ⟨fun h1 => ⟨fun h2 => ⟨((hc (by simp (disch := omega) only [m0, m3, ne_eq, not_true_eq_false, Rg, tlt, tle, teq, tnI, ts1, tl0, tl1, tl2, tl3, tl4, tl5, tl6, tl7, tl8, tl9, tl10, tl11, tl12, tl13, tl14, tl15, tl16, tl24, tl30, tl33, tl60, tl84, tl96, tl99, tl100, tl200, tlm1, t44] at h1 h2 ⊢ <;> omega)).elim), fun h3 => ⟨((hc (by simp (disch := omega) only [m0, m3, ne_eq, not_true_eq_false, Rg, tlt, tle, teq, tnI, ts1, tl0, tl1, tl2, tl3, tl4, tl5, tl6, tl7, tl8, tl9, tl10, tl11, tl12, tl13, tl14, tl15, tl16, tl24, tl30, tl33, tl60, tl84, tl96, tl99, tl100, tl200, tlm1, t44] at h1 h2 h3 ⊢ <;> omega)).elim), fun h4 => ⟨fun h5 => ⟨((hc (by simp (disch := omega) only [m0, m3, ne_eq, not_true_eq_false, Rg, tlt, tle, teq, tnI, ts1, tl0, tl1, tl2, tl3, tl4, tl5, tl6, tl7, tl8, tl9, tl10, tl11, tl12, tl13, tl14, tl15, tl16, tl24, tl30, tl33, tl60, tl84, tl96, tl99, tl100, tl200, tlm1, t44] at h1 h2 h3 h4 h5 ⊢ <;> omega)).elim), fun h6 => ((hc (by simp (disch := omega) only [m0, m3, ne_eq, not_true_eq_false, Rg, tlt, tle, teq, tnI, ts1, tl0, tl1, tl2, tl3, tl4, tl5, tl6, tl7, tl8, tl9, tl10, tl11, tl12, tl13, tl14, tl15, tl16, tl24, tl30, tl33, tl60, tl84, tl96, tl99, tl100, tl200, tlm1, t44] at h1 h2 h3 h4 h5 h6 ⊢ <;> omega)).elim), fun h7 => ((hc (by simp (disch := omega) only [m0, m3, ne_eq, not_true_eq_false, Rg, tlt, tle, teq, tnI, ts1, tl0, tl1, tl2, tl3, tl4, tl5, tl6, tl7, tl8, tl9, tl10, tl11, tl12, tl13, tl14, tl15, tl16, tl24, tl30, tl33, tl60, tl84, tl96, tl99, tl100, tl200, tlm1, t44] at h1 h2 h3 h4 h5 h7 ⊢ <;> omega)).elim)⟩, fun h8 => ((hc (by simp (disch := omega) only [m0, m3, ne_eq, not_true_eq_false, Rg, tlt, tle, teq, tnI, ts1, tl0, tl1, tl2, tl3, tl4, tl5, tl6, tl7, tl8, tl9, tl10, tl11, tl12, tl13, tl14, tl15, tl16, tl24, tl30, tl33, tl60, tl84, tl96, tl99, tl100, tl200, tlm1, t44] at h1 h2 h3 h4 h8 ⊢ <;> omega)).elim)⟩, fun h9 => ((hc (by simp (disch := omega) only [m0, m3, ne_eq, not_true_eq_false, Rg, tlt, tle, teq, tnI, ts1, tl0, tl1, tl2, tl3, tl4, tl5, tl6, tl7, tl8, tl9, tl10, tl11, tl12, tl13, tl14, tl15, tl16, tl24, tl30, tl33, tl60, tl84, tl96, tl99, tl100, tl200, tlm1, t44] at h1 h2 h3 h9 ⊢ <;> omega)).elim)⟩, fun h10 => ⟨((hc (by simp (disch := omega) only [m0, m3, ne_eq, not_true_eq_false, Rg, tlt, tle, teq, tnI, ts1, tl0, tl1, tl2, tl3, tl4, tl5, tl6, tl7, tl8, tl9, tl10, tl11, tl12, tl13, tl14, tl15, tl16, tl24, tl30, tl33, tl60, tl84, tl96, tl99, tl100, tl200, tlm1, t44] at h1 h2 h10 ⊢ <;> omega)).elim), fun h11 => ((hc (by simp (disch := omega) only [m0, m3, ne_eq, not_true_eq_false, Rg, tlt, tle, teq, tnI, ts1, tl0, tl1, tl2, tl3, tl4, tl5, tl6, tl7, tl8, tl9, tl10, tl11, tl12, tl13, tl14, tl15, tl16, tl24, tl30, tl33, tl60, tl84, tl96, tl99, tl100, tl200, tlm1, t44] at h1 h2 h10 h11 ⊢ <;> omega)).elim), fun h12 => ((hc (by simp (disch := omega) only [m0, m3, ne_eq, not_true_eq_false, Rg, tlt, tle, teq, tnI, ts1, tl0, tl1, tl2, tl3, tl4, tl5, tl6, tl7, tl8, tl9, tl10, tl11, tl12, tl13, tl14, tl15, tl16, tl24, tl30, tl33, tl60, tl84, tl96, tl99, tl100, tl200, tlm1, t44] at h1 h2 h10 h12 ⊢ <;> omega)).elim)⟩⟩, fun h13 => ((hR M (Ag.rf _ _) rfl))⟩, fun h14 => ((hR M (Ag.rf _ _) rfl))⟩
end
