-- mark
section
variable {l : Launch} {G : GT} {D : Nat} {M : Mem} {R : Option Value → Mem → Prop} {b : Nat} {s : Nat → Int32}
theorem X_mark {k i v : Int32} (hD : 8 ≤ D) (hRel : Rel M) (hbad : ¬ Rg 4 k → R (some (.int (-1000000001))) M) (hno : Rg 4 k → M 104 (ix k) = -1 → R (some (.int (-1000000011))) M) (hix : Rg 4 k → ¬ M 104 (ix k) = -1 → ¬ Rg (ix (M 105 (ix k))) i → R (some (.int (-1000000013))) M) (hkd : Rg 4 k → M 104 (ix k) = 0 → Rg (ix (M 105 (ix k))) i → v = (-1000000005) → R (some (.int (-1000000012))) M) (hrg : Rg 4 k → M 104 (ix k) = 1 → Rg (ix (M 105 (ix k))) i → ¬ v = (-1000000005) → ¬ (¬ v < -99999 ∧ v ≤ 99999) → R (some (.int (-1000000001))) M) (hR : Rg 4 k → Rg (ix (M 105 (ix k))) i → (M 104 (ix k) = 0 ∧ v ≠ (-1000000005) ∨ M 104 (ix k) = 1 ∧ (v = (-1000000005) ∨ ¬ v < -99999 ∧ v ≤ 99999)) → R (some (.int 1)) (um M (70 + 2 * ix k + 1) (ix i) (if M 104 (ix k) = 0 then v.toInt16.toInt32 else v))) : Tr l G D mX7_mark [.ref (G.1 0), .int k, .int i, .int v] M R := by
  obtain ⟨d, rfl⟩ := dE (show 4 ≤ D by omega)
  by_cases hc : Rg 4 k
  · obtain ⟨k, hk, rfl⟩ := hc.ex
    have xk := ix_nI (show k < 2 ^ 31 by omega)
    have hs := hRel.1.2.2.2.1 k (by omega)
    have s0 : M (70 + 2 * k) 0 = M 104 k := hs.1
    obtain ⟨h104, n, hn, en⟩ := hRel.2.2.2.2.1 k (by omega)
    have s1 : M (70 + 2 * k) 1 = nI n := hs.2.1.trans en
    simp only [xk, en, ix_nI (show n < 2 ^ 31 by omega)] at hno hix hkd hrg hR
    have is1 : ¬ M 104 k = -1 → ¬ M 104 k = 0 → M 104 k = 1 := fun a b => (h104.resolve_left a).resolve_left b
    have key : ∀ i : Int32, ¬ i < 0 → ¬ nI n ≤ i → Rg n i := fun i g1 g2 => by simp (disch := omega) only [ne_eq, not_true_eq_false, Rg, tlt, tle, teq, tnI, ts1, tl0, tl1, tl2, tl3, tl4, tl5, tl6, tl7, tl8, tl9, tl10, tl11, tl12, tl13, tl14, tl15, tl16, tl24, tl30, tl33, tl60, tl84, tl96, tl99, tl100, tl200, tlm1, t44] at g1 g2 ⊢ <;> omega
    have ki : ∀ i : Int32, Rg n i → vp_in i 24 := fun i g => by
      obtain ⟨j, hj, rfl⟩ := g.ex
      exact vpn (by omega) (by decide)
    refine tX7_mark ⟨fun h1 => (absurd hc (fun hc => by simp (disch := omega) only [ne_eq, not_true_eq_false, Rg, tlt, tle, teq, tnI, ts1, tl0, tl1, tl2, tl3, tl4, tl5, tl6, tl7, tl8, tl9, tl10, tl11, tl12, tl13, tl14, tl15, tl16, tl24, tl30, tl33, tl60, tl84, tl96, tl99, tl100, tl200, tlm1, t44] at h1 hc <;> omega)), fun h2 => ⟨fun h3 => (absurd hc (fun hc => by simp (disch := omega) only [ne_eq, not_true_eq_false, Rg, tlt, tle, teq, tnI, ts1, tl0, tl1, tl2, tl3, tl4, tl5, tl6, tl7, tl8, tl9, tl10, tl11, tl12, tl13, tl14, tl15, tl16, tl24, tl30, tl33, tl60, tl84, tl96, tl99, tl100, tl200, tlm1, t44] at h2 h3 hc <;> omega)), fun h4 => ⟨?_, fun h5 => ?_, fun h6 => ⟨fun h7 => ?_, fun h8 => ⟨fun h9 => ?_, fun h10 => ⟨fun h11 => ⟨fun h12 => ?_, fun h13 => ⟨?_, ?_⟩⟩, fun h14 => ⟨fun h15 => ⟨?_, ?_⟩, fun h16 => ⟨fun h17 => ?_, fun h18 => ⟨fun h19 => ⟨?_, ?_⟩, fun h20 => ?_⟩⟩⟩⟩⟩⟩⟩⟩⟩
    all_goals rw [xk] at *
    all_goals first | rw [s0] at h5 | rw [s0] at h6 | skip
    all_goals first | rw [s1] at h9 | rw [s1] at h10 | skip
    all_goals first | rw [s0] at h11 | rw [s0] at h14 | skip
    · exact vpn (by omega) (by decide)
    · exact hno hc h5
    · exact hix hc h6 (fun q => by simp (disch := omega) only [ne_eq, not_true_eq_false, Rg, tlt, tle, teq, tnI, ts1, tl0, tl1, tl2, tl3, tl4, tl5, tl6, tl7, tl8, tl9, tl10, tl11, tl12, tl13, tl14, tl15, tl16, tl24, tl30, tl33, tl60, tl84, tl96, tl99, tl100, tl200, tlm1, t44] at h7 q <;> omega)
    · exact hix hc h6 (fun q => by simp (disch := omega) only [ne_eq, not_true_eq_false, Rg, tlt, tle, teq, tnI, ts1, tl0, tl1, tl2, tl3, tl4, tl5, tl6, tl7, tl8, tl9, tl10, tl11, tl12, tl13, tl14, tl15, tl16, tl24, tl30, tl33, tl60, tl84, tl96, tl99, tl100, tl200, tlm1, t44] at h9 q <;> omega)
    · exact hkd hc h11 (key _ h8 h10) h12
    · exact ki _ (key _ h8 h10)
    · have := hR hc (key _ h8 h10) (Or.inl ⟨h11, h13⟩)
      rw [if_pos h11] at this
      exact this
    · exact ki _ (key _ h8 h10)
    · have := hR hc (key _ h8 h10) (Or.inr ⟨is1 h6 h14, Or.inl h15⟩)
      rw [if_neg h14] at this
      exact this
    · exact hrg hc (is1 h6 h14) (key _ h8 h10) h16 (fun q => q.1 h17)
    · exact ki _ (key _ h8 h10)
    · have := hR hc (key _ h8 h10) (Or.inr ⟨is1 h6 h14, Or.inr ⟨h18, h19⟩⟩)
      rw [if_neg h14] at this
      exact this
    · exact hrg hc (is1 h6 h14) (key _ h8 h10) h16 (fun q => h20 q.2)
  · have hB := hbad hc
    exact tX7_mark ⟨fun h1 => (hB), fun h2 => ⟨fun h3 => (hB), fun h4 => ⟨((hc (by simp (disch := omega) only [ne_eq, not_true_eq_false, Rg, tlt, tle, teq, tnI, ts1, tl0, tl1, tl2, tl3, tl4, tl5, tl6, tl7, tl8, tl9, tl10, tl11, tl12, tl13, tl14, tl15, tl16, tl24, tl30, tl33, tl60, tl84, tl96, tl99, tl100, tl200, tlm1, t44] at h2 h4 ⊢ <;> omega)).elim), fun h5 => ((hc (by simp (disch := omega) only [ne_eq, not_true_eq_false, Rg, tlt, tle, teq, tnI, ts1, tl0, tl1, tl2, tl3, tl4, tl5, tl6, tl7, tl8, tl9, tl10, tl11, tl12, tl13, tl14, tl15, tl16, tl24, tl30, tl33, tl60, tl84, tl96, tl99, tl100, tl200, tlm1, t44] at h2 h4 h5 ⊢ <;> omega)).elim), fun h6 => ⟨fun h7 => ((hc (by simp (disch := omega) only [ne_eq, not_true_eq_false, Rg, tlt, tle, teq, tnI, ts1, tl0, tl1, tl2, tl3, tl4, tl5, tl6, tl7, tl8, tl9, tl10, tl11, tl12, tl13, tl14, tl15, tl16, tl24, tl30, tl33, tl60, tl84, tl96, tl99, tl100, tl200, tlm1, t44] at h2 h4 h6 h7 ⊢ <;> omega)).elim), fun h8 => ⟨fun h9 => ((hc (by simp (disch := omega) only [ne_eq, not_true_eq_false, Rg, tlt, tle, teq, tnI, ts1, tl0, tl1, tl2, tl3, tl4, tl5, tl6, tl7, tl8, tl9, tl10, tl11, tl12, tl13, tl14, tl15, tl16, tl24, tl30, tl33, tl60, tl84, tl96, tl99, tl100, tl200, tlm1, t44] at h2 h4 h6 h8 h9 ⊢ <;> omega)).elim), fun h10 => ⟨fun h11 => ⟨fun h12 => ((hc (by simp (disch := omega) only [ne_eq, not_true_eq_false, Rg, tlt, tle, teq, tnI, ts1, tl0, tl1, tl2, tl3, tl4, tl5, tl6, tl7, tl8, tl9, tl10, tl11, tl12, tl13, tl14, tl15, tl16, tl24, tl30, tl33, tl60, tl84, tl96, tl99, tl100, tl200, tlm1, t44] at h2 h4 h6 h8 h10 h11 h12 ⊢ <;> omega)).elim), fun h13 => ⟨((hc (by simp (disch := omega) only [ne_eq, not_true_eq_false, Rg, tlt, tle, teq, tnI, ts1, tl0, tl1, tl2, tl3, tl4, tl5, tl6, tl7, tl8, tl9, tl10, tl11, tl12, tl13, tl14, tl15, tl16, tl24, tl30, tl33, tl60, tl84, tl96, tl99, tl100, tl200, tlm1, t44] at h2 h4 h6 h8 h10 h11 h13 ⊢ <;> omega)).elim), ((hc (by simp (disch := omega) only [ne_eq, not_true_eq_false, Rg, tlt, tle, teq, tnI, ts1, tl0, tl1, tl2, tl3, tl4, tl5, tl6, tl7, tl8, tl9, tl10, tl11, tl12, tl13, tl14, tl15, tl16, tl24, tl30, tl33, tl60, tl84, tl96, tl99, tl100, tl200, tlm1, t44] at h2 h4 h6 h8 h10 h11 h13 ⊢ <;> omega)).elim)⟩⟩, fun h14 => ⟨fun h15 => ⟨((hc (by simp (disch := omega) only [ne_eq, not_true_eq_false, Rg, tlt, tle, teq, tnI, ts1, tl0, tl1, tl2, tl3, tl4, tl5, tl6, tl7, tl8, tl9, tl10, tl11, tl12, tl13, tl14, tl15, tl16, tl24, tl30, tl33, tl60, tl84, tl96, tl99, tl100, tl200, tlm1, t44] at h2 h4 h6 h8 h10 h14 h15 ⊢ <;> omega)).elim), ((hc (by simp (disch := omega) only [ne_eq, not_true_eq_false, Rg, tlt, tle, teq, tnI, ts1, tl0, tl1, tl2, tl3, tl4, tl5, tl6, tl7, tl8, tl9, tl10, tl11, tl12, tl13, tl14, tl15, tl16, tl24, tl30, tl33, tl60, tl84, tl96, tl99, tl100, tl200, tlm1, t44] at h2 h4 h6 h8 h10 h14 h15 ⊢ <;> omega)).elim)⟩, fun h16 => ⟨fun h17 => (hB), fun h18 => ⟨fun h19 => ⟨((hc (by simp (disch := omega) only [ne_eq, not_true_eq_false, Rg, tlt, tle, teq, tnI, ts1, tl0, tl1, tl2, tl3, tl4, tl5, tl6, tl7, tl8, tl9, tl10, tl11, tl12, tl13, tl14, tl15, tl16, tl24, tl30, tl33, tl60, tl84, tl96, tl99, tl100, tl200, tlm1, t44] at h2 h4 h6 h8 h10 h14 h16 h18 h19 ⊢ <;> omega)).elim), ((hc (by simp (disch := omega) only [ne_eq, not_true_eq_false, Rg, tlt, tle, teq, tnI, ts1, tl0, tl1, tl2, tl3, tl4, tl5, tl6, tl7, tl8, tl9, tl10, tl11, tl12, tl13, tl14, tl15, tl16, tl24, tl30, tl33, tl60, tl84, tl96, tl99, tl100, tl200, tlm1, t44] at h2 h4 h6 h8 h10 h14 h16 h18 h19 ⊢ <;> omega)).elim)⟩, fun h20 => (hB)⟩⟩⟩⟩⟩⟩⟩⟩⟩
end
