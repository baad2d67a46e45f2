-- a step that leaves lands, laws and flags as they are
theorem Rel.gen {M M2 : Mem} (h : Rel M) (hl : ∀ k, (1 ≤ k ∧ k < 6) ∨ (7 ≤ k ∧ k < 21) ∨ (30 ≤ k ∧ k < 39) ∨ (50 ≤ k ∧ k < 59) ∨ k = 101 ∨ k = 102 → M2 k = M k) (h0 : M2 0 5 = M 0 5) (h100 : M2 100 3 = M 100 3) (ht : RXt M2) (hs : RXs M2) (ho : RXo M2) (hw : RXw M2) (it : IT M2) (is : ISh M2) (il : ISl M2) (iw : IWt M2) : Rel M2 := by
  obtain ⟨⟨⟨r1, r2⟩, ⟨r3, r4⟩, -, -, -, -⟩, ⟨i1, i2, -, -, -, -⟩⟩ := h
  have m101 := hl 101 (by simp)
  have m102 := hl 102 (by simp)
  have h14 := i1.1.2.2.1.2.1
  refine ⟨⟨⟨?_, ?_⟩, ⟨?_, ?_⟩, ht, hs, ho, hw⟩, ⟨?_, ?_, it, is, il, iw⟩⟩
  · rw [m101]
    exact r1.of (fun j hj => hl _ (by omega))
  · intro t htt
    rw [m101] at htt ⊢
    have hq := r2 t htt
    unfold LW at hq ⊢
    rw [hl 3 (by omega), hl 4 (by omega), hl 5 (by omega), hl (7 + t) (by omega)]
    exact hq
  · rw [h0, h100]; exact r3
  · rw [h100, m102]
    intro q
    exact (r4 q).of (fun j hj => hl _ (by omega))
  · rw [m101]; exact i1
  · unfold II
    rw [h100, m101, m102]; exact i2
theorem RXt.of {M M2 : Mem} (h : RXt M) (h1 : M2 21 1 = M 21 1) (h2 : M2 22 = M 22) (h3 : M2 100 15 = M 100 15) (h4 : M2 114 = M 114) : RXt M2 := by
  unfold RXt at h ⊢; rw [h1, h2, h3, h4]; exact h
theorem RXs.of {M M2 : Mem} (h : RXs M) (h1 : ∀ k, (70 ≤ k ∧ k < 78) ∨ (104 ≤ k ∧ k < 107) → M2 k = M k) : RXs M2 := by
  intro j hj
  rw [h1 (70 + 2 * j) (by omega), h1 (70 + 2 * j + 1) (by omega), h1 104 (by omega), h1 105 (by omega), h1 106 (by omega)]
  exact h j hj
theorem RXo.of {M M2 : Mem} (h : RXo M) (h1 : ∀ k, (80 ≤ k ∧ k < 95) ∨ (107 ≤ k ∧ k < 112) → M2 k = M k) : RXo M2 := by
  intro j hj
  rw [h1 (80 + 3 * j) (by omega), h1 (80 + 3 * j + 1) (by omega), h1 (80 + 3 * j + 1 + 1) (by omega), h1 107 (by omega), h1 108 (by omega), h1 109 (by omega), h1 110 (by omega), h1 111 (by omega)]
  exact h j hj
theorem RXw.of {M M2 : Mem} (h : RXw M) (h1 : M2 0 11 = M 0 11) (h2 : M2 63 = M 63) (h3 : M2 100 30 = M 100 30) (h4 : M2 118 = M 118) : RXw M2 := by
  unfold RXw at h ⊢; rw [h1, h2, h3, h4]; exact h
theorem IT.of {M M2 : Mem} (h : IT M) (h3 : M2 100 15 = M 100 15) (h4 : M2 114 = M 114) : IT M2 := by
  unfold IT at h ⊢; rw [h3, h4]; exact h
theorem ISh.of {M M2 : Mem} (h : ISh M) (h3 : M2 104 = M 104) (h4 : M2 105 = M 105) : ISh M2 := by
  unfold ISh at h ⊢; rw [h3, h4]; exact h
theorem ISl.of {M M2 : Mem} (h : ISl M) (h3 : M2 107 = M 107) (h4 : M2 110 = M 110) : ISl M2 := by
  unfold ISl at h ⊢; rw [h3, h4]; exact h
theorem IWt.of {M M2 : Mem} (h : IWt M) (h3 : M2 100 30 = M 100 30) : IWt M2 := by
  unfold IWt at h ⊢; rw [h3]; exact h
section
variable {l : Launch} {G : GT} {D : Nat} {M : Mem} {R : Option Value → Mem → Prop}
-- tell
theorem X_tell {v : Int32} {n : Nat} (hD : 4 ≤ D) (hn : n ≤ 60) (e : M 0 11 = nI n) (hfull : n = 60 → R (some (.int (-1000000003))) M) (hR : n < 60 → R (some (.int (nI (n + 1)))) (um (um M 63 n v) 0 11 (nI (n + 1)))) : Tr l G D mX7_tell [.ref (G.1 0), .int v] M R := by
  obtain ⟨d, rfl⟩ := dE hD
  have k : nI n < 60 ↔ n < 60 := lt_nI (b := 60) (by omega) (by decide)
  refine tX7_tell ?_
  rw [e, k, ix_nI (by omega), um_n _ _ _ (by decide), e, p1]
  refine ⟨fun h => ⟨vpn h (by decide), fun M3 e3 => ?_⟩, fun h => hfull (by omega)⟩
  rw [e3, um_s, pk_us]
  exact hR h
theorem M_tell {v : Int32} {n : Nat} (hD : 4 ≤ D) (hn : n ≤ 60) (e : M 100 30 = nI n) (hfull : n = 60 → R (some (.int (-1000000003))) M) (hR : n < 60 → R (some (.int (nI (n + 1)))) (um (um M 118 n v) 100 30 (nI (n + 1)))) : Tr l G D mX8_tell [.ref (G.1 100), .int v] M R := by
  obtain ⟨d, rfl⟩ := dE hD
  have k : nI n = 60 ↔ n = 60 := nI_eq (b := 60) (by omega) (by decide)
  refine tX8_tell ?_
  rw [e, k, ix_nI (by omega), um_n _ _ _ (by decide), e, p1]
  refine ⟨fun h => hfull h, fun h => ⟨vpn (by omega) (by decide), fun M3 e3 => ?_⟩⟩
  rw [e3, um_s, pk_us]
  exact hR (by omega)
-- trim
theorem X_trim {v : Int32} {n : Nat} (hD : 4 ≤ D) (hn : n ≤ 96) (e : M 21 1 = nI n) (hbad : ¬ Rg (n + 1) v → R (some (.int (-1000000001))) M) (hR : Rg (n + 1) v → R (some (.int v)) (um M 21 1 v)) : Tr l G D mX7_trim [.ref (G.1 0), .int v] M R := by
  obtain ⟨d, rfl⟩ := dE hD
  refine tX7_trim ?_
  rw [e]
  refine ⟨fun h => hbad (fun q => ?_), fun h => ⟨fun h2 => hR ?_, fun h2 => hbad (fun q => ?_)⟩⟩
  · simp (disch := omega) only [ne_eq, not_true_eq_false, Rg, tlt, tle, teq, tnI, ts1, tl0, tl1, tl2, tl3, tl4, tl5, tl6, tl7, tl8, tl9, tl10, tl11, tl12, tl13, tl14, tl15, tl16, tl24, tl30, tl33, tl60, tl84, tl96, tl99, tl100, tl200, tlm1, t44] at h q <;> omega
  · simp (disch := omega) only [ne_eq, not_true_eq_false, Rg, tlt, tle, teq, tnI, ts1, tl0, tl1, tl2, tl3, tl4, tl5, tl6, tl7, tl8, tl9, tl10, tl11, tl12, tl13, tl14, tl15, tl16, tl24, tl30, tl33, tl60, tl84, tl96, tl99, tl100, tl200, tlm1, t44] at h h2 ⊢ <;> omega
  · simp (disch := omega) only [ne_eq, not_true_eq_false, Rg, tlt, tle, teq, tnI, ts1, tl0, tl1, tl2, tl3, tl4, tl5, tl6, tl7, tl8, tl9, tl10, tl11, tl12, tl13, tl14, tl15, tl16, tl24, tl30, tl33, tl60, tl84, tl96, tl99, tl100, tl200, tlm1, t44] at h2 q <;> omega
theorem M_trim {v : Int32} {n : Nat} (hD : 4 ≤ D) (hn : n ≤ 96) (e : M 100 15 = nI n) (hbad : ¬ Rg (n + 1) v → R (some (.int (-1000000001))) M) (hR : Rg (n + 1) v → R (some (.int v)) (um M 100 15 v)) : Tr l G D mX8_trim [.ref (G.1 100), .int v] M R := by
  obtain ⟨d, rfl⟩ := dE hD
  refine tX8_trim ?_
  rw [e]
  refine ⟨fun h => ⟨fun h2 => hR ?_, fun h2 => hbad (fun q => ?_)⟩, fun h => hbad (fun q => ?_)⟩
  · simp (disch := omega) only [ne_eq, not_true_eq_false, Rg, tlt, tle, teq, tnI, ts1, tl0, tl1, tl2, tl3, tl4, tl5, tl6, tl7, tl8, tl9, tl10, tl11, tl12, tl13, tl14, tl15, tl16, tl24, tl30, tl33, tl60, tl84, tl96, tl99, tl100, tl200, tlm1, t44] at h h2 ⊢ <;> omega
  · simp (disch := omega) only [ne_eq, not_true_eq_false, Rg, tlt, tle, teq, tnI, ts1, tl0, tl1, tl2, tl3, tl4, tl5, tl6, tl7, tl8, tl9, tl10, tl11, tl12, tl13, tl14, tl15, tl16, tl24, tl30, tl33, tl60, tl84, tl96, tl99, tl100, tl200, tlm1, t44] at h2 q <;> omega
  · simp (disch := omega) only [ne_eq, not_true_eq_false, Rg, tlt, tle, teq, tnI, ts1, tl0, tl1, tl2, tl3, tl4, tl5, tl6, tl7, tl8, tl9, tl10, tl11, tl12, tl13, tl14, tl15, tl16, tl24, tl30, tl33, tl60, tl84, tl96, tl99, tl100, tl200, tlm1, t44] at h q <;> omega
-- why
def anWhy (s : Nat → Int32) (k : Int32) : Int32 := if Rg 3 k then onS (ctS s k) else (-1000000001)
theorem X_why {k : Int32} (hD : 4 ≤ D) (hRel : Rel M) (hR : R (some (.int (anWhy (M 101) k))) M) : Tr l G D mX7_why [.ref (G.1 0), .int k] M R := by
  obtain ⟨d, rfl⟩ := dE hD
  unfold anWhy at hR
  by_cases hc : Rg 3 k
  · rw [if_pos hc] at hR
    obtain ⟨q, hq, rfl⟩ := hc.ex
    refine tX7_why ⟨fun h => absurd hc (fun hc => ?_), fun h => ⟨fun h2 => ⟨vpn hq (by decide), ?_⟩, fun h2 => absurd hc (fun hc => ?_)⟩⟩
    · simp (disch := omega) only [ne_eq, not_true_eq_false, Rg, tlt, tle, teq, tnI, ts1, tl0, tl1, tl2, tl3, tl4, tl5, tl6, tl7, tl8, tl9, tl10, tl11, tl12, tl13, tl14, tl15, tl16, tl24, tl30, tl33, tl60, tl84, tl96, tl99, tl100, tl200, tlm1, t44] at h hc <;> omega
    · rw [ix_nI (by omega), show M 38 q = onS (ctS (M 101) (nI q)) from hRel.1.1.1.2.2.2.2.2.2.2.2 q hq]
      exact hR
    · simp (disch := omega) only [ne_eq, not_true_eq_false, Rg, tlt, tle, teq, tnI, ts1, tl0, tl1, tl2, tl3, tl4, tl5, tl6, tl7, tl8, tl9, tl10, tl11, tl12, tl13, tl14, tl15, tl16, tl24, tl30, tl33, tl60, tl84, tl96, tl99, tl100, tl200, tlm1, t44] at h2 hc <;> omega
  · rw [if_neg hc] at hR
    refine tX7_why ⟨fun h => hR, fun h => ⟨fun h2 => absurd (show Rg 3 k from ?_) hc, fun h2 => hR⟩⟩
    simp (disch := omega) only [ne_eq, not_true_eq_false, Rg, tlt, tle, teq, tnI, ts1, tl0, tl1, tl2, tl3, tl4, tl5, tl6, tl7, tl8, tl9, tl10, tl11, tl12, tl13, tl14, tl15, tl16, tl24, tl30, tl33, tl60, tl84, tl96, tl99, tl100, tl200, tlm1, t44] at h h2 ⊢ <;> omega
theorem M_why {k : Int32} (hD : 8 ≤ D) (hIS : IS M) (hR : R (some (.int (anWhy (M 101) k))) M) : Tr l G D mX8_why [.ref (G.1 100), .int k] M R := by
  obtain ⟨d, rfl⟩ := dE (show 4 ≤ D by omega)
  unfold anWhy at hR
  have hT := hIS.1.1.2.2.1
  by_cases hc : Rg 3 k
  · rw [if_pos hc] at hR
    refine tX8_why ⟨fun h => ⟨fun h2 => sX8_counts (by omega) ⟨hT.1, hT.2.1⟩ (kI_i (bX8_why_17 ?_)), fun h2 => absurd hc (fun hc => ?_)⟩, fun h => absurd hc (fun hc => ?_)⟩
    · unfold onS at hR
      refine ⟨fun h => ?_, fun h => ?_⟩
      · rw [if_neg (Int32.not_lt.mpr h)] at hR; exact hR
      · rw [if_pos (Int32.not_le.mp h)] at hR; exact hR
    · simp (disch := omega) only [ne_eq, not_true_eq_false, Rg, tlt, tle, teq, tnI, ts1, tl0, tl1, tl2, tl3, tl4, tl5, tl6, tl7, tl8, tl9, tl10, tl11, tl12, tl13, tl14, tl15, tl16, tl24, tl30, tl33, tl60, tl84, tl96, tl99, tl100, tl200, tlm1, t44] at h2 hc <;> omega
    · simp (disch := omega) only [ne_eq, not_true_eq_false, Rg, tlt, tle, teq, tnI, ts1, tl0, tl1, tl2, tl3, tl4, tl5, tl6, tl7, tl8, tl9, tl10, tl11, tl12, tl13, tl14, tl15, tl16, tl24, tl30, tl33, tl60, tl84, tl96, tl99, tl100, tl200, tlm1, t44] at h hc <;> omega
  · rw [if_neg hc] at hR
    refine tX8_why ⟨fun h => ⟨fun h2 => absurd (show Rg 3 k from ?_) hc, fun h2 => hR⟩, fun h => hR⟩
    simp (disch := omega) only [ne_eq, not_true_eq_false, Rg, tlt, tle, teq, tnI, ts1, tl0, tl1, tl2, tl3, tl4, tl5, tl6, tl7, tl8, tl9, tl10, tl11, tl12, tl13, tl14, tl15, tl16, tl24, tl30, tl33, tl60, tl84, tl96, tl99, tl100, tl200, tlm1, t44] at h h2 ⊢ <;> omega
end
