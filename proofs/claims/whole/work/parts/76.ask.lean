-- slots: ask
section
variable {l : Launch} {G : GT} {D : Nat} {M : Mem} {R : Option Value → Mem → Prop} {b : Nat} {s : Nat → Int32}
def anAsk (M : Mem) (k c : Int32) : Int32 := if Rg 5 k ∧ Rg 6 c then (if M 107 (ix k) = 0 then (-1000000011) else if M 107 (ix k) = 1 then (if (ix (M 108 (ix k)) = ix c ∨ ix c = 0 ∨ (ix c = 1 ∧ ix (M 108 (ix k)) = 3) ∨ (ix c = 2 ∧ ix (M 108 (ix k)) = 4)) then M 109 (ix k) else (-1000000012)) else (-1000000012)) else (-1000000001)
theorem X_ask {k c : Int32} (hD : 16 ≤ D) (hRel : Rel M) (hR : ∀ M', Ag scX M M' → R (some (.int (anAsk M k c))) M') : Tr l G D mX7_ask [.ref (G.1 0), .int k, .int c] M R := by
  obtain ⟨d, rfl⟩ := dE (show 4 ≤ D by omega)
  have hL := hRel.1.1.1
  have hI := hRel.2.1.1
  have n1 : M 30 1 = nI (np (M 101)) := hL.1.1.trans hI.1.1
  have n6 : M 30 6 = nI (nw (M 101)) := hL.1.2.1.trans hI.2.1.1
  have hp := hI.1.2
  have hw := hI.2.1.2
  have hW := hI.2.1
  unfold anAsk at hR
  by_cases hc : Rg 5 k ∧ Rg 6 c
  · simp only [if_pos hc] at hR
    obtain ⟨k, hk, rfl⟩ := hc.1.ex
    have xk := ix_nI (show k < 2 ^ 31 by omega)
    obtain ⟨c, hhc, rfl⟩ := hc.2.ex
    have xc := ix_nI (show c < 2 ^ 31 by omega)
    try simp only [xk, xc] at hR
    have ho := hRel.1.2.2.2.2.1 k (by omega)
    have s0 : M (80 + 3 * k) 0 = M 107 k := ho.1
    have hSl : IsSl (80 + 3 * k) := by unfold IsSl; omega
    refine tX7_ask ⟨fun h1 => (absurd hc (fun hc => by simp (disch := omega) only [n1, n6, ne_eq, not_true_eq_false, Rg, tlt, tle, teq, tnI, ts1, tl0, tl1, tl2, tl3, tl4, tl5, tl6, tl7, tl8, tl9, tl10, tl11, tl12, tl13, tl14, tl15, tl16, tl24, tl30, tl33, tl60, tl84, tl96, tl99, tl100, tl200, tlm1, t44] at h1 hc <;> omega)), fun h2 => ⟨fun h3 => (absurd hc (fun hc => by simp (disch := omega) only [n1, n6, ne_eq, not_true_eq_false, Rg, tlt, tle, teq, tnI, ts1, tl0, tl1, tl2, tl3, tl4, tl5, tl6, tl7, tl8, tl9, tl10, tl11, tl12, tl13, tl14, tl15, tl16, tl24, tl30, tl33, tl60, tl84, tl96, tl99, tl100, tl200, tlm1, t44] at h2 h3 hc <;> omega)), fun h4 => ⟨fun h5 => (absurd hc (fun hc => by simp (disch := omega) only [n1, n6, ne_eq, not_true_eq_false, Rg, tlt, tle, teq, tnI, ts1, tl0, tl1, tl2, tl3, tl4, tl5, tl6, tl7, tl8, tl9, tl10, tl11, tl12, tl13, tl14, tl15, tl16, tl24, tl30, tl33, tl60, tl84, tl96, tl99, tl100, tl200, tlm1, t44] at h2 h4 h5 hc <;> omega)), fun h6 => ⟨fun h7 => (absurd hc (fun hc => by simp (disch := omega) only [n1, n6, ne_eq, not_true_eq_false, Rg, tlt, tle, teq, tnI, ts1, tl0, tl1, tl2, tl3, tl4, tl5, tl6, tl7, tl8, tl9, tl10, tl11, tl12, tl13, tl14, tl15, tl16, tl24, tl30, tl33, tl60, tl84, tl96, tl99, tl100, tl200, tlm1, t44] at h2 h4 h6 h7 hc <;> omega)), fun h8 => ⟨?_, fun h9 => ?_, fun h10 => ⟨fun h11 => ?_, fun h12 => ?_⟩⟩⟩⟩⟩⟩
    all_goals rw [xk, s0] at *
    · exact vpn (by omega) (by decide)
    · rw [if_pos h9] at hR; exact hR M (Ag.rf _ _)
    · rw [if_neg h10, if_pos h11] at hR
      obtain ⟨q1, q2, ⟨a, ha, q3⟩, m, hm, q4⟩ := ho.2.1 h11
      rw [q3, ix_nI (show a < 2 ^ 31 by omega)] at hR
      rw [q1, q3]
      refine sX0_isUnder (by omega) ha hhc (kI_i (bX7_ask_50 hSl ⟨fun h => ?_, fun h => ?_⟩))
      · split at h
        · exact absurd h (by decide)
        · next hq => rw [if_neg hq] at hR; exact hR M (Ag.rf _ _)
      · split at h
        · next hq =>
          rw [if_pos hq, q2, q4] at hR
          rw [q4]
          exact sX0_worth (by omega) hm (kI_i (bX7_ask_67 (hR M (Ag.rf _ _))))
        · exact absurd rfl h
    · rw [if_neg h10, if_neg h12] at hR; exact hR M (Ag.rf _ _)
  · simp only [if_neg hc] at hR
    exact tX7_ask ⟨fun h1 => (hR M (Ag.rf _ _)), fun h2 => ⟨fun h3 => (hR M (Ag.rf _ _)), fun h4 => ⟨fun h5 => (hR M (Ag.rf _ _)), fun h6 => ⟨fun h7 => (hR M (Ag.rf _ _)), fun h8 => ⟨((hc (by simp (disch := omega) only [n1, n6, ne_eq, not_true_eq_false, Rg, tlt, tle, teq, tnI, ts1, tl0, tl1, tl2, tl3, tl4, tl5, tl6, tl7, tl8, tl9, tl10, tl11, tl12, tl13, tl14, tl15, tl16, tl24, tl30, tl33, tl60, tl84, tl96, tl99, tl100, tl200, tlm1, t44] at h2 h4 h6 h8 ⊢ <;> omega)).elim), fun h9 => ((hc (by simp (disch := omega) only [n1, n6, ne_eq, not_true_eq_false, Rg, tlt, tle, teq, tnI, ts1, tl0, tl1, tl2, tl3, tl4, tl5, tl6, tl7, tl8, tl9, tl10, tl11, tl12, tl13, tl14, tl15, tl16, tl24, tl30, tl33, tl60, tl84, tl96, tl99, tl100, tl200, tlm1, t44] at h2 h4 h6 h8 h9 ⊢ <;> omega)).elim), fun h10 => ⟨fun h11 => ((hc (by simp (disch := omega) only [n1, n6, ne_eq, not_true_eq_false, Rg, tlt, tle, teq, tnI, ts1, tl0, tl1, tl2, tl3, tl4, tl5, tl6, tl7, tl8, tl9, tl10, tl11, tl12, tl13, tl14, tl15, tl16, tl24, tl30, tl33, tl60, tl84, tl96, tl99, tl100, tl200, tlm1, t44] at h2 h4 h6 h8 h10 h11 ⊢ <;> omega)).elim), fun h12 => ((hc (by simp (disch := omega) only [n1, n6, ne_eq, not_true_eq_false, Rg, tlt, tle, teq, tnI, ts1, tl0, tl1, tl2, tl3, tl4, tl5, tl6, tl7, tl8, tl9, tl10, tl11, tl12, tl13, tl14, tl15, tl16, tl24, tl30, tl33, tl60, tl84, tl96, tl99, tl100, tl200, tlm1, t44] at h2 h4 h6 h8 h10 h12 ⊢ <;> omega)).elim)⟩⟩⟩⟩⟩⟩
end
