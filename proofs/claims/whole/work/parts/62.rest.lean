-- slots: rest, item
section
variable {l : Launch} {G : GT} {D : Nat} {M : Mem} {R : Option Value → Mem → Prop} {b : Nat} {s : Nat → Int32}
def anRest (M : Mem) (k v : Int32) : Int32 := if Rg 5 k then (if M 107 (ix k) = 0 then (-1000000011) else if M 107 (ix k) = 3 then (if v = 0 then (-1000000002) else irm (M 108 (ix k)) v) else (-1000000012)) else (-1000000001)
theorem X_rest {k v : Int32} (hD : 8 ≤ D) (hRel : Rel M) (hR : ∀ M', Ag scX M M' → R (some (.int (anRest M k v))) M') : Tr l G D mX7_rest [.ref (G.1 0), .int k, .int v] M R := by
  obtain ⟨d, rfl⟩ := dE (show 4 ≤ D by omega)
  have hL := hRel.1.1.1
  have hI := hRel.2.1.1
  have n1 : M 30 1 = nI (np (M 101)) := hL.1.1.trans hI.1.1
  have n6 : M 30 6 = nI (nw (M 101)) := hL.1.2.1.trans hI.2.1.1
  have hp := hI.1.2
  have hw := hI.2.1.2
  have hW := hI.2.1
  unfold anRest at hR
  by_cases hc : Rg 5 k
  · simp only [if_pos hc] at hR
    obtain ⟨k, hk, rfl⟩ := hc.ex
    have xk := ix_nI (show k < 2 ^ 31 by omega)
    try simp only [xk] at hR
    have ho := hRel.1.2.2.2.2.1 k (by omega)
    have s0 : M (80 + 3 * k) 0 = M 107 k := ho.1
    
    refine tX7_rest ⟨fun h1 => (absurd hc (fun hc => by simp (disch := omega) only [n1, n6, ne_eq, not_true_eq_false, Rg, tlt, tle, teq, tnI, ts1, tl0, tl1, tl2, tl3, tl4, tl5, tl6, tl7, tl8, tl9, tl10, tl11, tl12, tl13, tl14, tl15, tl16, tl24, tl30, tl33, tl60, tl84, tl96, tl99, tl100, tl200, tlm1, t44] at h1 hc <;> omega)), fun h2 => ⟨fun h3 => (absurd hc (fun hc => by simp (disch := omega) only [n1, n6, ne_eq, not_true_eq_false, Rg, tlt, tle, teq, tnI, ts1, tl0, tl1, tl2, tl3, tl4, tl5, tl6, tl7, tl8, tl9, tl10, tl11, tl12, tl13, tl14, tl15, tl16, tl24, tl30, tl33, tl60, tl84, tl96, tl99, tl100, tl200, tlm1, t44] at h2 h3 hc <;> omega)), fun h4 => ⟨?_, fun h5 => ?_, fun h6 => ⟨fun h7 => ⟨fun h8 => ?_, fun h9 => ⟨?_, ?_⟩⟩, fun h10 => ?_⟩⟩⟩⟩
    all_goals rw [xk, s0] at *
    · exact vpn (by omega) (by decide)
    · rw [if_pos h5] at hR; exact hR M (Ag.rf _ _)
    · rw [if_neg h6, if_pos h7, if_pos h8] at hR; exact hR M (Ag.rf _ _)
    · exact h9
    · rw [if_neg h6, if_pos h7, if_neg h9] at hR
      rw [ho.2.2.2 h7]
      exact hR M (Ag.rf _ _)
    · rw [if_neg h6, if_neg h10] at hR; exact hR M (Ag.rf _ _)
  · simp only [if_neg hc] at hR
    exact tX7_rest ⟨fun h1 => (hR M (Ag.rf _ _)), fun h2 => ⟨fun h3 => (hR M (Ag.rf _ _)), fun h4 => ⟨((hc (by simp (disch := omega) only [n1, n6, ne_eq, not_true_eq_false, Rg, tlt, tle, teq, tnI, ts1, tl0, tl1, tl2, tl3, tl4, tl5, tl6, tl7, tl8, tl9, tl10, tl11, tl12, tl13, tl14, tl15, tl16, tl24, tl30, tl33, tl60, tl84, tl96, tl99, tl100, tl200, tlm1, t44] at h2 h4 ⊢ <;> omega)).elim), fun h5 => ((hc (by simp (disch := omega) only [n1, n6, ne_eq, not_true_eq_false, Rg, tlt, tle, teq, tnI, ts1, tl0, tl1, tl2, tl3, tl4, tl5, tl6, tl7, tl8, tl9, tl10, tl11, tl12, tl13, tl14, tl15, tl16, tl24, tl30, tl33, tl60, tl84, tl96, tl99, tl100, tl200, tlm1, t44] at h2 h4 h5 ⊢ <;> omega)).elim), fun h6 => ⟨fun h7 => ⟨fun h8 => ((hc (by simp (disch := omega) only [n1, n6, ne_eq, not_true_eq_false, Rg, tlt, tle, teq, tnI, ts1, tl0, tl1, tl2, tl3, tl4, tl5, tl6, tl7, tl8, tl9, tl10, tl11, tl12, tl13, tl14, tl15, tl16, tl24, tl30, tl33, tl60, tl84, tl96, tl99, tl100, tl200, tlm1, t44] at h2 h4 h6 h7 h8 ⊢ <;> omega)).elim), fun h9 => ⟨((hc (by simp (disch := omega) only [n1, n6, ne_eq, not_true_eq_false, Rg, tlt, tle, teq, tnI, ts1, tl0, tl1, tl2, tl3, tl4, tl5, tl6, tl7, tl8, tl9, tl10, tl11, tl12, tl13, tl14, tl15, tl16, tl24, tl30, tl33, tl60, tl84, tl96, tl99, tl100, tl200, tlm1, t44] at h2 h4 h6 h7 h9 ⊢ <;> omega)).elim), ((hc (by simp (disch := omega) only [n1, n6, ne_eq, not_true_eq_false, Rg, tlt, tle, teq, tnI, ts1, tl0, tl1, tl2, tl3, tl4, tl5, tl6, tl7, tl8, tl9, tl10, tl11, tl12, tl13, tl14, tl15, tl16, tl24, tl30, tl33, tl60, tl84, tl96, tl99, tl100, tl200, tlm1, t44] at h2 h4 h6 h7 h9 ⊢ <;> omega)).elim)⟩⟩, fun h10 => ((hc (by simp (disch := omega) only [n1, n6, ne_eq, not_true_eq_false, Rg, tlt, tle, teq, tnI, ts1, tl0, tl1, tl2, tl3, tl4, tl5, tl6, tl7, tl8, tl9, tl10, tl11, tl12, tl13, tl14, tl15, tl16, tl24, tl30, tl33, tl60, tl84, tl96, tl99, tl100, tl200, tlm1, t44] at h2 h4 h6 h10 ⊢ <;> omega)).elim)⟩⟩⟩⟩
theorem M_rest {k v : Int32} (hD : 8 ≤ D) (hIS : IS M) (hR : ∀ M', Ag scY M M' → M' 101 = M 101 → R (some (.int (anRest M k v))) M') : Tr l G D mX8_rest [.ref (G.1 100), .int k, .int v] M R := by
  obtain ⟨d, rfl⟩ := dE (show 4 ≤ D by omega)
  have hI := hIS.1.1
  have m0 : M 101 0 = nI (np (M 101)) := hI.1.1
  have m3 : M 101 3 = nI (nw (M 101)) := hI.2.1.1
  have hp := hI.1.2
  have hw := hI.2.1.2
  have hW := hI.2.1
  unfold anRest at hR
  by_cases hc : Rg 5 k
  · simp only [if_pos hc] at hR
    obtain ⟨k, hk, rfl⟩ := hc.ex
    have xk := ix_nI (show k < 2 ^ 31 by omega)
    try simp only [xk] at hR
    have n3 : ¬ (3 : Int32) = 0 := by decide
    refine tX8_rest ⟨fun h1 => ⟨fun h2 => ⟨?_, fun h3 => ⟨fun h4 => ?_, fun h5 => ⟨?_, ?_, ?_⟩⟩, fun h6 => ⟨?_, fun h7 => ?_, fun h8 => ?_⟩⟩, fun h9 => (absurd hc (fun hc => by simp (disch := omega) only [m0, m3, ne_eq, not_true_eq_false, Rg, tlt, tle, teq, tnI, ts1, tl0, tl1, tl2, tl3, tl4, tl5, tl6, tl7, tl8, tl9, tl10, tl11, tl12, tl13, tl14, tl15, tl16, tl24, tl30, tl33, tl60, tl84, tl96, tl99, tl100, tl200, tlm1, t44] at h1 h9 hc <;> omega))⟩, fun h10 => (absurd hc (fun hc => by simp (disch := omega) only [m0, m3, ne_eq, not_true_eq_false, Rg, tlt, tle, teq, tnI, ts1, tl0, tl1, tl2, tl3, tl4, tl5, tl6, tl7, tl8, tl9, tl10, tl11, tl12, tl13, tl14, tl15, tl16, tl24, tl30, tl33, tl60, tl84, tl96, tl99, tl100, tl200, tlm1, t44] at h10 hc <;> omega))⟩
    all_goals first | exact vpn (show k < 5 by omega) (by decide) | skip
    all_goals rw [xk] at *
    · rw [if_neg (by rw [h3]; exact n3), if_pos h3, if_pos h4] at hR; exact hR M (Ag.rf _ _) rfl
    · exact h5
    · rw [if_neg (by rw [h3]; exact n3), if_pos h3, if_neg h5] at hR; exact hR M (Ag.rf _ _) rfl
    · rw [if_pos h7] at hR; exact hR M (Ag.rf _ _) rfl
    · rw [if_neg h8, if_neg h6] at hR; exact hR M (Ag.rf _ _) rfl
  · simp only [if_neg hc] at hR
    exact tX8_rest ⟨fun h1 => ⟨fun h2 => ⟨((hc (by simp (disch := omega) only [m0, m3, ne_eq, not_true_eq_false, Rg, tlt, tle, teq, tnI, ts1, tl0, tl1, tl2, tl3, tl4, tl5, tl6, tl7, tl8, tl9, tl10, tl11, tl12, tl13, tl14, tl15, tl16, tl24, tl30, tl33, tl60, tl84, tl96, tl99, tl100, tl200, tlm1, t44] at h1 h2 ⊢ <;> omega)).elim), fun h3 => ⟨fun h4 => ((hc (by simp (disch := omega) only [m0, m3, ne_eq, not_true_eq_false, Rg, tlt, tle, teq, tnI, ts1, tl0, tl1, tl2, tl3, tl4, tl5, tl6, tl7, tl8, tl9, tl10, tl11, tl12, tl13, tl14, tl15, tl16, tl24, tl30, tl33, tl60, tl84, tl96, tl99, tl100, tl200, tlm1, t44] at h1 h2 h3 h4 ⊢ <;> omega)).elim), fun h5 => ⟨((hc (by simp (disch := omega) only [m0, m3, ne_eq, not_true_eq_false, Rg, tlt, tle, teq, tnI, ts1, tl0, tl1, tl2, tl3, tl4, tl5, tl6, tl7, tl8, tl9, tl10, tl11, tl12, tl13, tl14, tl15, tl16, tl24, tl30, tl33, tl60, tl84, tl96, tl99, tl100, tl200, tlm1, t44] at h1 h2 h3 h5 ⊢ <;> omega)).elim), ((hc (by simp (disch := omega) only [m0, m3, ne_eq, not_true_eq_false, Rg, tlt, tle, teq, tnI, ts1, tl0, tl1, tl2, tl3, tl4, tl5, tl6, tl7, tl8, tl9, tl10, tl11, tl12, tl13, tl14, tl15, tl16, tl24, tl30, tl33, tl60, tl84, tl96, tl99, tl100, tl200, tlm1, t44] at h1 h2 h3 h5 ⊢ <;> omega)).elim), ((hc (by simp (disch := omega) only [m0, m3, ne_eq, not_true_eq_false, Rg, tlt, tle, teq, tnI, ts1, tl0, tl1, tl2, tl3, tl4, tl5, tl6, tl7, tl8, tl9, tl10, tl11, tl12, tl13, tl14, tl15, tl16, tl24, tl30, tl33, tl60, tl84, tl96, tl99, tl100, tl200, tlm1, t44] at h1 h2 h3 h5 ⊢ <;> omega)).elim)⟩⟩, fun h6 => ⟨((hc (by simp (disch := omega) only [m0, m3, ne_eq, not_true_eq_false, Rg, tlt, tle, teq, tnI, ts1, tl0, tl1, tl2, tl3, tl4, tl5, tl6, tl7, tl8, tl9, tl10, tl11, tl12, tl13, tl14, tl15, tl16, tl24, tl30, tl33, tl60, tl84, tl96, tl99, tl100, tl200, tlm1, t44] at h1 h2 h6 ⊢ <;> omega)).elim), fun h7 => ((hc (by simp (disch := omega) only [m0, m3, ne_eq, not_true_eq_false, Rg, tlt, tle, teq, tnI, ts1, tl0, tl1, tl2, tl3, tl4, tl5, tl6, tl7, tl8, tl9, tl10, tl11, tl12, tl13, tl14, tl15, tl16, tl24, tl30, tl33, tl60, tl84, tl96, tl99, tl100, tl200, tlm1, t44] at h1 h2 h6 h7 ⊢ <;> omega)).elim), fun h8 => ((hc (by simp (disch := omega) only [m0, m3, ne_eq, not_true_eq_false, Rg, tlt, tle, teq, tnI, ts1, tl0, tl1, tl2, tl3, tl4, tl5, tl6, tl7, tl8, tl9, tl10, tl11, tl12, tl13, tl14, tl15, tl16, tl24, tl30, tl33, tl60, tl84, tl96, tl99, tl100, tl200, tlm1, t44] at h1 h2 h6 h8 ⊢ <;> omega)).elim)⟩⟩, fun h9 => ((hR M (Ag.rf _ _) rfl))⟩, fun h10 => ((hR M (Ag.rf _ _) rfl))⟩
end
