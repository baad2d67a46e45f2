-- reads
def reF (M : Mem) (k : Nat) : Nat → Nat → Int32
  | _, 0 => -1000000005
  | i, f + 1 => if M 106 (24 * k + i) = -1000000005 then reF M k (i + 1) f else if np (M 101) ≤ i then nI i else if M 106 (24 * k + i) = pcI (sk (M 101) i) then reF M k (i + 1) f else nI i
theorem re_s (M : Mem) (k i f : Nat) : reF M k i (f + 1) = if M 106 (24 * k + i) = -1000000005 then reF M k (i + 1) f else if np (M 101) ≤ i then nI i else if M 106 (24 * k + i) = pcI (sk (M 101) i) then reF M k (i + 1) f else nI i := rfl
theorem i24b {k j : Nat} (hk : k < 4) (hj : j < 24) : 24 * nI k + nI j = nI (24 * k + j) := i24 (by omega) hj
section
variable {l : Launch} {G : GT} {D : Nat} {M : Mem} {R : Option Value → Mem → Prop} {b : Nat} {s : Nat → Int32}
def anReads (M : Mem) (k : Int32) : Int32 := if Rg 4 k then (if M 104 (ix k) = -1 then (-1000000011) else reF M (ix k) 0 (ix (M 105 (ix k)))) else (-1000000001)
theorem X_reads {k : Int32} (hD : 8 ≤ D) (hRel : Rel M) (hR : ∀ M', Ag scX M M' → R (some (.int (anReads M k))) M') : Tr l G D mX7_reads [.ref (G.1 0), .int k] M R := by
  obtain ⟨d, rfl⟩ := dE (show 4 ≤ D by omega)
  have hL := hRel.1.1.1
  have hI := hRel.2.1.1
  have n1 : M 30 1 = nI (np (M 101)) := hL.1.1.trans hI.1.1
  have n6 : M 30 6 = nI (nw (M 101)) := hL.1.2.1.trans hI.2.1.1
  have hp := hI.1.2
  have hw := hI.2.1.2
  have hW := hI.2.1
  unfold anReads at hR
  by_cases hc : Rg 4 k
  · simp only [if_pos hc] at hR
    obtain ⟨k, hk, rfl⟩ := hc.ex
    have xk := ix_nI (show k < 2 ^ 31 by omega)
    try simp only [xk] at hR
    have hs := hRel.1.2.2.2.1 k (by omega)
    have s0 : M (70 + 2 * k) 0 = M 104 k := hs.1
    obtain ⟨n, hn, en⟩ := (hRel.2.2.2.2.1 k (by omega)).2
    rw [en, ix_nI (show n < 2 ^ 31 by omega)] at hR
    have s1 : M (70 + 2 * k) 1 = nI n := hs.2.1.trans en
    have hSh : IsSh (70 + 2 * k) := by unfold IsSh; omega
    have l0 : ∀ i, 0 ≤ i → ¬ nI i < 0 → True := fun _ _ _ => trivial
    have loop : ∀ i, i ≤ n → R (some (.int (reF M k i (n - i)))) M → At l G (d + 4) mX7_reads 29 [some (.ref (G.1 0)), none, some (.ref (G.1 (70 + 2 * k))), some (.int (nI i))] [] M R := by
      refine upL (fun i => R (some (.int (reF M k i (n - i)))) M → At l G (d + 4) mX7_reads 29 [some (.ref (G.1 0)), none, some (.ref (G.1 (70 + 2 * k))), some (.int (nI i))] [] M R) n ?_ ?_
      · intro hR'
        rw [Nat.sub_self] at hR'
        exact bX7_reads_29 hSh ⟨fun _ => hR', fun h => absurd (by rw [s1, le_nI (by omega) (by omega)]; exact Nat.le_refl _) h⟩
      · intro i hi ih hR'
        rw [show n - i = (n - (i + 1)) + 1 by omega, re_s] at hR'
        have hrow : M (70 + 2 * k + 1) (ix (nI i)) = M 106 (24 * k + i) := by rw [ix_nI (by omega)]; exact hs.2.2 i (by omega)
        have nn : ¬ M (70 + 2 * k) 1 ≤ nI i := by rw [s1, le_nI (by omega) (by omega)]; omega
        have nz : ¬ nI i < 0 := Int32.not_lt.mpr (zl i (by omega))
        refine bX7_reads_29 hSh ⟨fun h => absurd h nn, fun _ => ⟨fun h => absurd h nz, fun _ => ⟨fun h => absurd h nn, fun _ => ⟨vpn (by omega) (by decide), fun h => ?_, fun h => ⟨fun h => absurd h nz, fun _ => ⟨fun h2 => ?_, fun h2 => ⟨vpn (by omega) (by decide), ?_⟩⟩⟩⟩⟩⟩⟩
        · rw [hrow] at h
          rw [if_pos h] at hR'
          rw [p1]
          exact ih hR'
        · rw [hrow] at h
          rw [n1, le_nI (by omega) (by omega)] at h2
          rw [if_neg h, if_pos h2] at hR'
          exact hR'
        · rw [hrow] at h
          rw [n1, le_nI (by omega) (by omega)] at h2
          rw [if_neg h, if_neg h2] at hR'
          refine ⟨vpn (by omega) (by decide), ?_⟩
          obtain ⟨m, hm, em⟩ := ms_sm hI (k := i) (by omega) (-1)
          have em' : sk (M 101) i = nI m := by
            rw [← em]
            apply b_ext
            intro j hj
            rw [b_and, bt_neg hj, Bool.and_true]
          rw [hrow, ix_nI (show i < 2 ^ 31 by omega), show M 34 i = nI m from (hL.2.2.2.2.1 i (by omega)).trans em']
          rw [em', pc_nI hm] at hR'
          refine sJ6_bitCount (by omega) hm (kI_i (bX7_reads_71 hSh ⟨fun h3 => ?_, fun h3 => ?_⟩))
          · rw [if_pos h3] at hR'
            rw [p1]
            exact ih hR'
          · rw [if_neg h3] at hR'
            exact hR'
    refine tX7_reads ⟨fun h1 => (absurd hc (fun hc => by simp (disch := omega) only [n1, n6, ne_eq, not_true_eq_false, Rg, tlt, tle, teq, tnI, ts1, tl0, tl1, tl2, tl3, tl4, tl5, tl6, tl7, tl8, tl9, tl10, tl11, tl12, tl13, tl14, tl15, tl16, tl24, tl30, tl33, tl60, tl84, tl96, tl99, tl100, tl200, tlm1, t44] at h1 hc <;> omega)), fun h2 => ⟨fun h3 => (absurd hc (fun hc => by simp (disch := omega) only [n1, n6, ne_eq, not_true_eq_false, Rg, tlt, tle, teq, tnI, ts1, tl0, tl1, tl2, tl3, tl4, tl5, tl6, tl7, tl8, tl9, tl10, tl11, tl12, tl13, tl14, tl15, tl16, tl24, tl30, tl33, tl60, tl84, tl96, tl99, tl100, tl200, tlm1, t44] at h2 h3 hc <;> omega)), fun h4 => ⟨?_, fun h5 => ?_, fun h6 => ?_⟩⟩⟩
    all_goals rw [xk] at *
    · exact vpn (by omega) (by decide)
    · rw [s0] at h5
      rw [if_pos h5] at hR; exact hR M (Ag.rf _ _)
    · rw [s0] at h6
      rw [if_neg h6] at hR
      exact loop 0 (Nat.zero_le _) (by rw [Nat.sub_zero]; exact hR M (Ag.rf _ _))
  · simp only [if_neg hc] at hR
    exact tX7_reads ⟨fun h1 => (hR M (Ag.rf _ _)), fun h2 => ⟨fun h3 => (hR M (Ag.rf _ _)), fun h4 => ⟨((hc (by simp (disch := omega) only [n1, n6, ne_eq, not_true_eq_false, Rg, tlt, tle, teq, tnI, ts1, tl0, tl1, tl2, tl3, tl4, tl5, tl6, tl7, tl8, tl9, tl10, tl11, tl12, tl13, tl14, tl15, tl16, tl24, tl30, tl33, tl60, tl84, tl96, tl99, tl100, tl200, tlm1, t44] at h2 h4 ⊢ <;> omega)).elim), fun h5 => ((hc (by simp (disch := omega) only [n1, n6, ne_eq, not_true_eq_false, Rg, tlt, tle, teq, tnI, ts1, tl0, tl1, tl2, tl3, tl4, tl5, tl6, tl7, tl8, tl9, tl10, tl11, tl12, tl13, tl14, tl15, tl16, tl24, tl30, tl33, tl60, tl84, tl96, tl99, tl100, tl200, tlm1, t44] at h2 h4 h5 ⊢ <;> omega)).elim), fun h6 => ((hc (by simp (disch := omega) only [n1, n6, ne_eq, not_true_eq_false, Rg, tlt, tle, teq, tnI, ts1, tl0, tl1, tl2, tl3, tl4, tl5, tl6, tl7, tl8, tl9, tl10, tl11, tl12, tl13, tl14, tl15, tl16, tl24, tl30, tl33, tl60, tl84, tl96, tl99, tl100, tl200, tlm1, t44] at h2 h4 h6 ⊢ <;> omega)).elim)⟩⟩⟩
theorem M_reads {k : Int32} (hD : 8 ≤ D) (hIS : IS M) (hR : ∀ M', Ag scY M M' → M' 101 = M 101 → R (some (.int (anReads M k))) M') : Tr l G D mX8_reads [.ref (G.1 100), .int k] M R := by
  obtain ⟨d, rfl⟩ := dE (show 4 ≤ D by omega)
  have hI := hIS.1.1
  have m0 : M 101 0 = nI (np (M 101)) := hI.1.1
  have m3 : M 101 3 = nI (nw (M 101)) := hI.2.1.1
  have hp := hI.1.2
  have hw := hI.2.1.2
  have hW := hI.2.1
  unfold anReads at hR
  by_cases hc : Rg 4 k
  · simp only [if_pos hc] at hR
    obtain ⟨k, hk, rfl⟩ := hc.ex
    have xk := ix_nI (show k < 2 ^ 31 by omega)
    try simp only [xk] at hR
    obtain ⟨n, hn, en⟩ := (hIS.2.2.2.1 k (by omega)).2
    have h104 := (hIS.2.2.2.1 k (by omega)).1
    rw [en, ix_nI (show n < 2 ^ 31 by omega)] at hR
    have loop : ∀ i, i ≤ n → R (some (.int (reF M k i (n - i)))) M → At l G (d + 4) mX8_reads 25 [some (.ref (G.1 100)), some (.int (nI k)), some (.int (nI i)), none] [] M R := by
      refine upL (fun i => R (some (.int (reF M k i (n - i)))) M → At l G (d + 4) mX8_reads 25 [some (.ref (G.1 100)), some (.int (nI k)), some (.int (nI i)), none] [] M R) n ?_ ?_
      · intro hR'
        rw [Nat.sub_self] at hR'
        exact bX8_reads_25 ⟨vpn (by omega) (by decide), fun _ => hR', fun h => absurd (by rw [xk, en, le_nI (by omega) (by omega)]; exact Nat.le_refl _) h⟩
      · intro i hi ih hR'
        rw [show n - i = (n - (i + 1)) + 1 by omega, re_s] at hR'
        have hrow : M 106 (ix (24 * nI k + nI i)) = M 106 (24 * k + i) := by rw [i24b (by omega) (by omega), ix_nI (by omega)]
        refine bX8_reads_25 ⟨vpn (by omega) (by decide), fun h => absurd h (by rw [xk, en, le_nI (by omega) (by omega)]; omega), fun _ => ⟨by rw [i24b (by omega) (by omega)]; exact vpn (by omega) (by decide), fun h => ?_, fun h => ⟨fun h2 => ?_, fun h2 => ?_⟩⟩⟩
        · rw [hrow] at h
          rw [if_pos h] at hR'
          rw [p1]
          exact ih hR'
        · rw [hrow] at h
          rw [m0, le_nI (by omega) (by omega)] at h2
          rw [if_neg h, if_pos h2] at hR'
          exact hR'
        · rw [hrow] at h
          rw [m0, le_nI (by omega) (by omega)] at h2
          rw [if_neg h, if_neg h2] at hR'
          refine ⟨v3 (by omega), ?_⟩
          obtain ⟨m, hm, em⟩ := ms_sm hI (k := i) (by omega) (-1)
          have em' : sk (M 101) i = nI m := by
            rw [← em]
            apply b_ext
            intro j hj
            rw [b_and, bt_neg hj, Bool.and_true]
          rw [hrow, e3 (by omega), show M 101 (13 + 4 * i) = nI m from em']
          rw [em', pc_nI hm] at hR'
          refine sX8_bits (by omega) hm (kI_i (bX8_reads_73 ⟨fun h3 => ?_, fun h3 => ?_⟩))
          · rw [if_pos h3] at hR'
            rw [p1]
            exact ih hR'
          · rw [if_neg h3] at hR'
            exact hR'
    refine tX8_reads ⟨fun h1 => ⟨fun h2 => ⟨?_, fun h3 => ?_, fun h4 => ?_⟩, fun h5 => (absurd hc (fun hc => by simp (disch := omega) only [m0, m3, ne_eq, not_true_eq_false, Rg, tlt, tle, teq, tnI, ts1, tl0, tl1, tl2, tl3, tl4, tl5, tl6, tl7, tl8, tl9, tl10, tl11, tl12, tl13, tl14, tl15, tl16, tl24, tl30, tl33, tl60, tl84, tl96, tl99, tl100, tl200, tlm1, t44] at h1 h5 hc <;> omega))⟩, fun h6 => (absurd hc (fun hc => by simp (disch := omega) only [m0, m3, ne_eq, not_true_eq_false, Rg, tlt, tle, teq, tnI, ts1, tl0, tl1, tl2, tl3, tl4, tl5, tl6, tl7, tl8, tl9, tl10, tl11, tl12, tl13, tl14, tl15, tl16, tl24, tl30, tl33, tl60, tl84, tl96, tl99, tl100, tl200, tlm1, t44] at h6 hc <;> omega))⟩
    · exact vpn (by omega) (by decide)
    · rw [xk] at h3
      rw [if_neg (fun e => by rw [e] at h3; exact absurd h3 (by decide))] at hR
      exact loop 0 (Nat.zero_le _) (by rw [Nat.sub_zero]; exact hR M (Ag.rf _ _) rfl)
    · rw [xk] at h4
      have e : M 104 k = -1 := by
        rcases h104 with q | q | q
        · exact q
        · rw [q] at h4; exact absurd (by decide) h4
        · rw [q] at h4; exact absurd (by decide) h4
      rw [if_pos e] at hR
      exact hR M (Ag.rf _ _) rfl
  · simp only [if_neg hc] at hR
    exact tX8_reads ⟨fun h1 => ⟨fun h2 => ⟨((hc (by simp (disch := omega) only [m0, m3, ne_eq, not_true_eq_false, Rg, tlt, tle, teq, tnI, ts1, tl0, tl1, tl2, tl3, tl4, tl5, tl6, tl7, tl8, tl9, tl10, tl11, tl12, tl13, tl14, tl15, tl16, tl24, tl30, tl33, tl60, tl84, tl96, tl99, tl100, tl200, tlm1, t44] at h1 h2 ⊢ <;> omega)).elim), fun h3 => ((hc (by simp (disch := omega) only [m0, m3, ne_eq, not_true_eq_false, Rg, tlt, tle, teq, tnI, ts1, tl0, tl1, tl2, tl3, tl4, tl5, tl6, tl7, tl8, tl9, tl10, tl11, tl12, tl13, tl14, tl15, tl16, tl24, tl30, tl33, tl60, tl84, tl96, tl99, tl100, tl200, tlm1, t44] at h1 h2 h3 ⊢ <;> omega)).elim), fun h4 => ((hc (by simp (disch := omega) only [m0, m3, ne_eq, not_true_eq_false, Rg, tlt, tle, teq, tnI, ts1, tl0, tl1, tl2, tl3, tl4, tl5, tl6, tl7, tl8, tl9, tl10, tl11, tl12, tl13, tl14, tl15, tl16, tl24, tl30, tl33, tl60, tl84, tl96, tl99, tl100, tl200, tlm1, t44] at h1 h2 h4 ⊢ <;> omega)).elim)⟩, fun h5 => ((hR M (Ag.rf _ _) rfl))⟩, fun h6 => ((hR M (Ag.rf _ _) rfl))⟩
end
