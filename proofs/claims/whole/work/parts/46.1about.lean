-- about
section
variable {l : Launch} {G : GT} {D : Nat} {M : Mem} {R : Option Value → Mem → Prop} {b : Nat} {s : Nat → Int32}
def anAbout (s : Nat → Int32) (w q : Int32) : Int32 := if Rg (nw s) w ∧ (q = 0 ∨ q = 1 ∨ q = 2 ∨ q = 3) then (if q = 3 then beS s (ix w) else s (42 + 3 * ix w + ix q)) else (-1000000001)
theorem X_about {w q : Int32} (hD : 8 ≤ D) (hRel : Rel M) (hR : ∀ M', Ag scX M M' → R (some (.int (anAbout (M 101) w q))) M') : Tr l G D mX7_about [.ref (G.1 0), .int w, .int q] M R := by
  obtain ⟨d, rfl⟩ := dE (show 4 ≤ D by omega)
  have hL := hRel.1.1.1
  have hI := hRel.2.1.1
  have n1 : M 30 1 = nI (np (M 101)) := hL.1.1.trans hI.1.1
  have n6 : M 30 6 = nI (nw (M 101)) := hL.1.2.1.trans hI.2.1.1
  have hp := hI.1.2
  have hw := hI.2.1.2
  have hW := hI.2.1
  unfold anAbout at hR
  by_cases hc : Rg (nw (M 101)) w ∧ (q = 0 ∨ q = 1 ∨ q = 2 ∨ q = 3)
  · simp only [if_pos hc] at hR
    obtain ⟨w, hhw, rfl⟩ := hc.1.ex
    have xw := ix_nI (show w < 2 ^ 31 by omega)
    try simp only [xw] at hR
    have l5 : M 35 w = fr (M 101) w := hL.2.2.2.2.2.1 w (by omega)
    have l6 : M 36 w = tt (M 101) w := hL.2.2.2.2.2.2.1 w (by omega)
    have h01 := (hI.2.2.2.2 w hhw).2.2
    have es : M 30 10 = stS (M 101) := hL.1.2.2.1
    have eb : bt (stS (M 101)) w = decide (sd (M 101) w = 1) := by unfold stS; rw [bt_bs _ _ _ (by omega), decide_eq_true hhw, Bool.true_and]
    rcases hc.2 with rfl | rfl | rfl | rfl
    · rw [if_neg (by decide)] at hR
      refine tX7_about ⟨fun h1 => (absurd hc (fun hc => by simp (disch := omega) only [n1, n6, ne_eq, not_true_eq_false, Rg, tlt, tle, teq, tnI, ts1, tl0, tl1, tl2, tl3, tl4, tl5, tl6, tl7, tl8, tl9, tl10, tl11, tl12, tl13, tl14, tl15, tl16, tl24, tl30, tl33, tl60, tl84, tl96, tl99, tl100, tl200, tlm1] at h1 hc <;> omega)), fun h2 => ⟨fun h3 => (absurd hc (fun hc => by simp (disch := omega) only [n1, n6, ne_eq, not_true_eq_false, Rg, tlt, tle, teq, tnI, ts1, tl0, tl1, tl2, tl3, tl4, tl5, tl6, tl7, tl8, tl9, tl10, tl11, tl12, tl13, tl14, tl15, tl16, tl24, tl30, tl33, tl60, tl84, tl96, tl99, tl100, tl200, tlm1] at h2 h3 hc <;> omega)), fun h4 => ⟨fun h5 => ⟨(vpn (by omega) (by decide)), ?_⟩, fun h6 => ⟨(vpn (by omega) (by decide)), ?_⟩, fun h7 => ⟨fun h8 => ?_, fun h9 => ?_⟩, fun h10 => ?_, fun h11 => fun h12 => fun h13 => fun h14 => (absurd hc (fun hc => by simp (disch := omega) only [n1, n6, ne_eq, not_true_eq_false, Rg, tlt, tle, teq, tnI, ts1, tl0, tl1, tl2, tl3, tl4, tl5, tl6, tl7, tl8, tl9, tl10, tl11, tl12, tl13, tl14, tl15, tl16, tl24, tl30, tl33, tl60, tl84, tl96, tl99, tl100, tl200, tlm1] at h2 h4 h11 h12 h13 h14 hc <;> omega))⟩⟩⟩
      all_goals first | exact absurd (by assumption : (0 : Int32) = 1) (by decide) | exact absurd (by assumption : (0 : Int32) = 2) (by decide) | exact absurd (by assumption : (0 : Int32) = 3) (by decide) | exact absurd rfl (by assumption : ¬ (0 : Int32) = 0) | skip
      all_goals rw [show 42 + 3 * w + ix (0 : Int32) = 42 + 3 * w by rw [show ix (0 : Int32) = 0 from by decide]; omega] at hR
      rw [xw, l5]
      exact hR M (Ag.rf _ _)
    · rw [if_neg (by decide)] at hR
      refine tX7_about ⟨fun h1 => (absurd hc (fun hc => by simp (disch := omega) only [n1, n6, ne_eq, not_true_eq_false, Rg, tlt, tle, teq, tnI, ts1, tl0, tl1, tl2, tl3, tl4, tl5, tl6, tl7, tl8, tl9, tl10, tl11, tl12, tl13, tl14, tl15, tl16, tl24, tl30, tl33, tl60, tl84, tl96, tl99, tl100, tl200, tlm1] at h1 hc <;> omega)), fun h2 => ⟨fun h3 => (absurd hc (fun hc => by simp (disch := omega) only [n1, n6, ne_eq, not_true_eq_false, Rg, tlt, tle, teq, tnI, ts1, tl0, tl1, tl2, tl3, tl4, tl5, tl6, tl7, tl8, tl9, tl10, tl11, tl12, tl13, tl14, tl15, tl16, tl24, tl30, tl33, tl60, tl84, tl96, tl99, tl100, tl200, tlm1] at h2 h3 hc <;> omega)), fun h4 => ⟨fun h5 => ⟨(vpn (by omega) (by decide)), ?_⟩, fun h6 => ⟨(vpn (by omega) (by decide)), ?_⟩, fun h7 => ⟨fun h8 => ?_, fun h9 => ?_⟩, fun h10 => ?_, fun h11 => fun h12 => fun h13 => fun h14 => (absurd hc (fun hc => by simp (disch := omega) only [n1, n6, ne_eq, not_true_eq_false, Rg, tlt, tle, teq, tnI, ts1, tl0, tl1, tl2, tl3, tl4, tl5, tl6, tl7, tl8, tl9, tl10, tl11, tl12, tl13, tl14, tl15, tl16, tl24, tl30, tl33, tl60, tl84, tl96, tl99, tl100, tl200, tlm1] at h2 h4 h11 h12 h13 h14 hc <;> omega))⟩⟩⟩
      all_goals first | exact absurd (by assumption : (1 : Int32) = 0) (by decide) | exact absurd (by assumption : (1 : Int32) = 2) (by decide) | exact absurd (by assumption : (1 : Int32) = 3) (by decide) | exact absurd rfl (by assumption : ¬ (1 : Int32) = 1) | skip
      all_goals rw [show 42 + 3 * w + ix (1 : Int32) = 43 + 3 * w by rw [show ix (1 : Int32) = 1 from by decide]; omega] at hR
      rw [xw, l6]
      exact hR M (Ag.rf _ _)
    · rw [if_neg (by decide)] at hR
      refine tX7_about ⟨fun h1 => (absurd hc (fun hc => by simp (disch := omega) only [n1, n6, ne_eq, not_true_eq_false, Rg, tlt, tle, teq, tnI, ts1, tl0, tl1, tl2, tl3, tl4, tl5, tl6, tl7, tl8, tl9, tl10, tl11, tl12, tl13, tl14, tl15, tl16, tl24, tl30, tl33, tl60, tl84, tl96, tl99, tl100, tl200, tlm1] at h1 hc <;> omega)), fun h2 => ⟨fun h3 => (absurd hc (fun hc => by simp (disch := omega) only [n1, n6, ne_eq, not_true_eq_false, Rg, tlt, tle, teq, tnI, ts1, tl0, tl1, tl2, tl3, tl4, tl5, tl6, tl7, tl8, tl9, tl10, tl11, tl12, tl13, tl14, tl15, tl16, tl24, tl30, tl33, tl60, tl84, tl96, tl99, tl100, tl200, tlm1] at h2 h3 hc <;> omega)), fun h4 => ⟨fun h5 => ⟨(vpn (by omega) (by decide)), ?_⟩, fun h6 => ⟨(vpn (by omega) (by decide)), ?_⟩, fun h7 => ⟨fun h8 => ?_, fun h9 => ?_⟩, fun h10 => ?_, fun h11 => fun h12 => fun h13 => fun h14 => (absurd hc (fun hc => by simp (disch := omega) only [n1, n6, ne_eq, not_true_eq_false, Rg, tlt, tle, teq, tnI, ts1, tl0, tl1, tl2, tl3, tl4, tl5, tl6, tl7, tl8, tl9, tl10, tl11, tl12, tl13, tl14, tl15, tl16, tl24, tl30, tl33, tl60, tl84, tl96, tl99, tl100, tl200, tlm1] at h2 h4 h11 h12 h13 h14 hc <;> omega))⟩⟩⟩
      all_goals first | exact absurd (by assumption : (2 : Int32) = 0) (by decide) | exact absurd (by assumption : (2 : Int32) = 1) (by decide) | exact absurd (by assumption : (2 : Int32) = 3) (by decide) | exact absurd rfl (by assumption : ¬ (2 : Int32) = 2) | skip
      all_goals rw [show 42 + 3 * w + ix (2 : Int32) = 44 + 3 * w by rw [show ix (2 : Int32) = 2 from by decide]; omega] at hR
      · rw [es, has0 _ (by omega), eb, decide_eq_true_eq] at h8; rw [show M 101 (44 + 3 * w) = 0 from h01.resolve_right h8] at hR; exact hR M (Ag.rf _ _)
      · rw [es, has0 _ (by omega), eb, decide_eq_true_eq, Classical.not_not] at h9; rw [show M 101 (44 + 3 * w) = 1 from h9] at hR; exact hR M (Ag.rf _ _)
    · rw [if_pos rfl] at hR
      refine tX7_about ⟨fun h1 => (absurd hc (fun hc => by simp (disch := omega) only [n1, n6, ne_eq, not_true_eq_false, Rg, tlt, tle, teq, tnI, ts1, tl0, tl1, tl2, tl3, tl4, tl5, tl6, tl7, tl8, tl9, tl10, tl11, tl12, tl13, tl14, tl15, tl16, tl24, tl30, tl33, tl60, tl84, tl96, tl99, tl100, tl200, tlm1] at h1 hc <;> omega)), fun h2 => ⟨fun h3 => (absurd hc (fun hc => by simp (disch := omega) only [n1, n6, ne_eq, not_true_eq_false, Rg, tlt, tle, teq, tnI, ts1, tl0, tl1, tl2, tl3, tl4, tl5, tl6, tl7, tl8, tl9, tl10, tl11, tl12, tl13, tl14, tl15, tl16, tl24, tl30, tl33, tl60, tl84, tl96, tl99, tl100, tl200, tlm1] at h2 h3 hc <;> omega)), fun h4 => ⟨fun h5 => ⟨(vpn (by omega) (by decide)), ?_⟩, fun h6 => ⟨(vpn (by omega) (by decide)), ?_⟩, fun h7 => ⟨fun h8 => ?_, fun h9 => ?_⟩, fun h10 => ?_, fun h11 => fun h12 => fun h13 => fun h14 => (absurd hc (fun hc => by simp (disch := omega) only [n1, n6, ne_eq, not_true_eq_false, Rg, tlt, tle, teq, tnI, ts1, tl0, tl1, tl2, tl3, tl4, tl5, tl6, tl7, tl8, tl9, tl10, tl11, tl12, tl13, tl14, tl15, tl16, tl24, tl30, tl33, tl60, tl84, tl96, tl99, tl100, tl200, tlm1] at h2 h4 h11 h12 h13 h14 hc <;> omega))⟩⟩⟩
      all_goals first | exact absurd (by assumption : (3 : Int32) = 0) (by decide) | exact absurd (by assumption : (3 : Int32) = 1) (by decide) | exact absurd (by assumption : (3 : Int32) = 2) (by decide) | exact absurd rfl (by assumption : ¬ (3 : Int32) = 3) | skip
      exact sX1_bearersOf ld30 (by omega) (by omega) hI hL (kI_i (bX7_about_92 (hR M (Ag.rf _ _))))
  · simp only [if_neg hc] at hR
    exact tX7_about ⟨fun h1 => (hR M (Ag.rf _ _)), fun h2 => ⟨fun h3 => (hR M (Ag.rf _ _)), fun h4 => ⟨fun h5 => ⟨((hc (by simp (disch := omega) only [n1, n6, ne_eq, not_true_eq_false, Rg, tlt, tle, teq, tnI, ts1, tl0, tl1, tl2, tl3, tl4, tl5, tl6, tl7, tl8, tl9, tl10, tl11, tl12, tl13, tl14, tl15, tl16, tl24, tl30, tl33, tl60, tl84, tl96, tl99, tl100, tl200, tlm1] at h2 h4 h5 ⊢ <;> omega)).elim), ((hc (by simp (disch := omega) only [n1, n6, ne_eq, not_true_eq_false, Rg, tlt, tle, teq, tnI, ts1, tl0, tl1, tl2, tl3, tl4, tl5, tl6, tl7, tl8, tl9, tl10, tl11, tl12, tl13, tl14, tl15, tl16, tl24, tl30, tl33, tl60, tl84, tl96, tl99, tl100, tl200, tlm1] at h2 h4 h5 ⊢ <;> omega)).elim)⟩, fun h6 => ⟨((hc (by simp (disch := omega) only [n1, n6, ne_eq, not_true_eq_false, Rg, tlt, tle, teq, tnI, ts1, tl0, tl1, tl2, tl3, tl4, tl5, tl6, tl7, tl8, tl9, tl10, tl11, tl12, tl13, tl14, tl15, tl16, tl24, tl30, tl33, tl60, tl84, tl96, tl99, tl100, tl200, tlm1] at h2 h4 h6 ⊢ <;> omega)).elim), ((hc (by simp (disch := omega) only [n1, n6, ne_eq, not_true_eq_false, Rg, tlt, tle, teq, tnI, ts1, tl0, tl1, tl2, tl3, tl4, tl5, tl6, tl7, tl8, tl9, tl10, tl11, tl12, tl13, tl14, tl15, tl16, tl24, tl30, tl33, tl60, tl84, tl96, tl99, tl100, tl200, tlm1] at h2 h4 h6 ⊢ <;> omega)).elim)⟩, fun h7 => ⟨fun h8 => ((hc (by simp (disch := omega) only [n1, n6, ne_eq, not_true_eq_false, Rg, tlt, tle, teq, tnI, ts1, tl0, tl1, tl2, tl3, tl4, tl5, tl6, tl7, tl8, tl9, tl10, tl11, tl12, tl13, tl14, tl15, tl16, tl24, tl30, tl33, tl60, tl84, tl96, tl99, tl100, tl200, tlm1] at h2 h4 h7 h8 ⊢ <;> omega)).elim), fun h9 => ((hc (by simp (disch := omega) only [n1, n6, ne_eq, not_true_eq_false, Rg, tlt, tle, teq, tnI, ts1, tl0, tl1, tl2, tl3, tl4, tl5, tl6, tl7, tl8, tl9, tl10, tl11, tl12, tl13, tl14, tl15, tl16, tl24, tl30, tl33, tl60, tl84, tl96, tl99, tl100, tl200, tlm1] at h2 h4 h7 h9 ⊢ <;> omega)).elim)⟩, fun h10 => ((hc (by simp (disch := omega) only [n1, n6, ne_eq, not_true_eq_false, Rg, tlt, tle, teq, tnI, ts1, tl0, tl1, tl2, tl3, tl4, tl5, tl6, tl7, tl8, tl9, tl10, tl11, tl12, tl13, tl14, tl15, tl16, tl24, tl30, tl33, tl60, tl84, tl96, tl99, tl100, tl200, tlm1] at h2 h4 h10 ⊢ <;> omega)).elim), fun h11 => fun h12 => fun h13 => fun h14 => (hR M (Ag.rf _ _))⟩⟩⟩
theorem M_about {w q : Int32} (hD : 8 ≤ D) (hIS : IS M) (hR : ∀ M', Ag scY M M' → M' 101 = M 101 → R (some (.int (anAbout (M 101) w q))) M') : Tr l G D mX8_about [.ref (G.1 100), .int w, .int q] M R := by
  obtain ⟨d, rfl⟩ := dE (show 4 ≤ D by omega)
  have hI := hIS.1.1
  have m0 : M 101 0 = nI (np (M 101)) := hI.1.1
  have m3 : M 101 3 = nI (nw (M 101)) := hI.2.1.1
  have hp := hI.1.2
  have hw := hI.2.1.2
  have hW := hI.2.1
  unfold anAbout at hR
  by_cases hc : Rg (nw (M 101)) w ∧ (q = 0 ∨ q = 1 ∨ q = 2 ∨ q = 3)
  · simp only [if_pos hc] at hR
    obtain ⟨w, hhw, rfl⟩ := hc.1.ex
    have xw := ix_nI (show w < 2 ^ 31 by omega)
    try simp only [xw] at hR
    rcases hc.2 with rfl | rfl | rfl | rfl
    · rw [if_neg (by decide)] at hR
      refine tX8_about ⟨fun h1 => ⟨fun h2 => ⟨fun h3 => ⟨fun h4 => ⟨fun h5 => ?_, fun h6 => ⟨?_, ?_⟩⟩, fun h7 => (absurd hc (fun hc => by simp (disch := omega) only [m0, m3, ne_eq, not_true_eq_false, Rg, tlt, tle, teq, tnI, ts1, tl0, tl1, tl2, tl3, tl4, tl5, tl6, tl7, tl8, tl9, tl10, tl11, tl12, tl13, tl14, tl15, tl16, tl24, tl30, tl33, tl60, tl84, tl96, tl99, tl100, tl200, tlm1] at h1 h2 h3 h7 hc <;> omega))⟩, fun h8 => (absurd hc (fun hc => by simp (disch := omega) only [m0, m3, ne_eq, not_true_eq_false, Rg, tlt, tle, teq, tnI, ts1, tl0, tl1, tl2, tl3, tl4, tl5, tl6, tl7, tl8, tl9, tl10, tl11, tl12, tl13, tl14, tl15, tl16, tl24, tl30, tl33, tl60, tl84, tl96, tl99, tl100, tl200, tlm1] at h1 h2 h8 hc <;> omega))⟩, fun h9 => (absurd hc (fun hc => by simp (disch := omega) only [m0, m3, ne_eq, not_true_eq_false, Rg, tlt, tle, teq, tnI, ts1, tl0, tl1, tl2, tl3, tl4, tl5, tl6, tl7, tl8, tl9, tl10, tl11, tl12, tl13, tl14, tl15, tl16, tl24, tl30, tl33, tl60, tl84, tl96, tl99, tl100, tl200, tlm1] at h1 h9 hc <;> omega))⟩, fun h10 => (absurd hc (fun hc => by simp (disch := omega) only [m0, m3, ne_eq, not_true_eq_false, Rg, tlt, tle, teq, tnI, ts1, tl0, tl1, tl2, tl3, tl4, tl5, tl6, tl7, tl8, tl9, tl10, tl11, tl12, tl13, tl14, tl15, tl16, tl24, tl30, tl33, tl60, tl84, tl96, tl99, tl100, tl200, tlm1] at h10 hc <;> omega))⟩
      · exact absurd h5 (by decide)
      · rw [az]; exact vw0 (by omega)
      · rw [show 42 + 3 * w + ix (0 : Int32) = 42 + 3 * w by rw [show ix (0 : Int32) = 0 from by decide]; omega] at hR
        rw [az]; rw [f0 (by omega)]
        exact hR M (Ag.rf _ _) rfl
    · rw [if_neg (by decide)] at hR
      refine tX8_about ⟨fun h1 => ⟨fun h2 => ⟨fun h3 => ⟨fun h4 => ⟨fun h5 => ?_, fun h6 => ⟨?_, ?_⟩⟩, fun h7 => (absurd hc (fun hc => by simp (disch := omega) only [m0, m3, ne_eq, not_true_eq_false, Rg, tlt, tle, teq, tnI, ts1, tl0, tl1, tl2, tl3, tl4, tl5, tl6, tl7, tl8, tl9, tl10, tl11, tl12, tl13, tl14, tl15, tl16, tl24, tl30, tl33, tl60, tl84, tl96, tl99, tl100, tl200, tlm1] at h1 h2 h3 h7 hc <;> omega))⟩, fun h8 => (absurd hc (fun hc => by simp (disch := omega) only [m0, m3, ne_eq, not_true_eq_false, Rg, tlt, tle, teq, tnI, ts1, tl0, tl1, tl2, tl3, tl4, tl5, tl6, tl7, tl8, tl9, tl10, tl11, tl12, tl13, tl14, tl15, tl16, tl24, tl30, tl33, tl60, tl84, tl96, tl99, tl100, tl200, tlm1] at h1 h2 h8 hc <;> omega))⟩, fun h9 => (absurd hc (fun hc => by simp (disch := omega) only [m0, m3, ne_eq, not_true_eq_false, Rg, tlt, tle, teq, tnI, ts1, tl0, tl1, tl2, tl3, tl4, tl5, tl6, tl7, tl8, tl9, tl10, tl11, tl12, tl13, tl14, tl15, tl16, tl24, tl30, tl33, tl60, tl84, tl96, tl99, tl100, tl200, tlm1] at h1 h9 hc <;> omega))⟩, fun h10 => (absurd hc (fun hc => by simp (disch := omega) only [m0, m3, ne_eq, not_true_eq_false, Rg, tlt, tle, teq, tnI, ts1, tl0, tl1, tl2, tl3, tl4, tl5, tl6, tl7, tl8, tl9, tl10, tl11, tl12, tl13, tl14, tl15, tl16, tl24, tl30, tl33, tl60, tl84, tl96, tl99, tl100, tl200, tlm1] at h10 hc <;> omega))⟩
      · exact absurd h5 (by decide)
      · exact vw1 (by omega)
      · rw [show 42 + 3 * w + ix (1 : Int32) = 43 + 3 * w by rw [show ix (1 : Int32) = 1 from by decide]; omega] at hR
        rw [f1 (by omega)]
        exact hR M (Ag.rf _ _) rfl
    · rw [if_neg (by decide)] at hR
      refine tX8_about ⟨fun h1 => ⟨fun h2 => ⟨fun h3 => ⟨fun h4 => ⟨fun h5 => ?_, fun h6 => ⟨?_, ?_⟩⟩, fun h7 => (absurd hc (fun hc => by simp (disch := omega) only [m0, m3, ne_eq, not_true_eq_false, Rg, tlt, tle, teq, tnI, ts1, tl0, tl1, tl2, tl3, tl4, tl5, tl6, tl7, tl8, tl9, tl10, tl11, tl12, tl13, tl14, tl15, tl16, tl24, tl30, tl33, tl60, tl84, tl96, tl99, tl100, tl200, tlm1] at h1 h2 h3 h7 hc <;> omega))⟩, fun h8 => (absurd hc (fun hc => by simp (disch := omega) only [m0, m3, ne_eq, not_true_eq_false, Rg, tlt, tle, teq, tnI, ts1, tl0, tl1, tl2, tl3, tl4, tl5, tl6, tl7, tl8, tl9, tl10, tl11, tl12, tl13, tl14, tl15, tl16, tl24, tl30, tl33, tl60, tl84, tl96, tl99, tl100, tl200, tlm1] at h1 h2 h8 hc <;> omega))⟩, fun h9 => (absurd hc (fun hc => by simp (disch := omega) only [m0, m3, ne_eq, not_true_eq_false, Rg, tlt, tle, teq, tnI, ts1, tl0, tl1, tl2, tl3, tl4, tl5, tl6, tl7, tl8, tl9, tl10, tl11, tl12, tl13, tl14, tl15, tl16, tl24, tl30, tl33, tl60, tl84, tl96, tl99, tl100, tl200, tlm1] at h1 h9 hc <;> omega))⟩, fun h10 => (absurd hc (fun hc => by simp (disch := omega) only [m0, m3, ne_eq, not_true_eq_false, Rg, tlt, tle, teq, tnI, ts1, tl0, tl1, tl2, tl3, tl4, tl5, tl6, tl7, tl8, tl9, tl10, tl11, tl12, tl13, tl14, tl15, tl16, tl24, tl30, tl33, tl60, tl84, tl96, tl99, tl100, tl200, tlm1] at h10 hc <;> omega))⟩
      · exact absurd h5 (by decide)
      · exact vw2 (by omega)
      · rw [show 42 + 3 * w + ix (2 : Int32) = 44 + 3 * w by rw [show ix (2 : Int32) = 2 from by decide]; omega] at hR
        rw [f2 (by omega)]
        exact hR M (Ag.rf _ _) rfl
    · rw [if_pos rfl] at hR
      refine tX8_about ⟨fun h1 => ⟨fun h2 => ⟨fun h3 => ⟨fun h4 => ⟨fun h5 => ?_, fun h6 => ⟨?_, ?_⟩⟩, fun h7 => (absurd hc (fun hc => by simp (disch := omega) only [m0, m3, ne_eq, not_true_eq_false, Rg, tlt, tle, teq, tnI, ts1, tl0, tl1, tl2, tl3, tl4, tl5, tl6, tl7, tl8, tl9, tl10, tl11, tl12, tl13, tl14, tl15, tl16, tl24, tl30, tl33, tl60, tl84, tl96, tl99, tl100, tl200, tlm1] at h1 h2 h3 h7 hc <;> omega))⟩, fun h8 => (absurd hc (fun hc => by simp (disch := omega) only [m0, m3, ne_eq, not_true_eq_false, Rg, tlt, tle, teq, tnI, ts1, tl0, tl1, tl2, tl3, tl4, tl5, tl6, tl7, tl8, tl9, tl10, tl11, tl12, tl13, tl14, tl15, tl16, tl24, tl30, tl33, tl60, tl84, tl96, tl99, tl100, tl200, tlm1] at h1 h2 h8 hc <;> omega))⟩, fun h9 => (absurd hc (fun hc => by simp (disch := omega) only [m0, m3, ne_eq, not_true_eq_false, Rg, tlt, tle, teq, tnI, ts1, tl0, tl1, tl2, tl3, tl4, tl5, tl6, tl7, tl8, tl9, tl10, tl11, tl12, tl13, tl14, tl15, tl16, tl24, tl30, tl33, tl60, tl84, tl96, tl99, tl100, tl200, tlm1] at h1 h9 hc <;> omega))⟩, fun h10 => (absurd hc (fun hc => by simp (disch := omega) only [m0, m3, ne_eq, not_true_eq_false, Rg, tlt, tle, teq, tnI, ts1, tl0, tl1, tl2, tl3, tl4, tl5, tl6, tl7, tl8, tl9, tl10, tl11, tl12, tl13, tl14, tl15, tl16, tl24, tl30, tl33, tl60, tl84, tl96, tl99, tl100, tl200, tlm1] at h10 hc <;> omega))⟩
      · refine upL (fun k => At l G (d + 4) mX8_about 47 [some (.ref (G.1 100)), some (.int (nI w)), none, some (.int (bs (fun k => bt (sk (M 101) k) w) k)), some (.int (nI k))] [] M R) (np (M 101)) ?_ ?_ 0 (Nat.zero_le _)
        · refine bX8_about_47 ⟨fun _ => hR M (Ag.rf _ _) rfl, fun h => absurd ?_ h⟩
          rw [m0, le_nI (by omega) (by omega)]
          exact Nat.le_refl _
        · intro k hk ih
          refine bX8_about_47 ⟨fun h => absurd h ?_, fun _ => ⟨v3 (by omega), fun h => ?_, fun h => ?_⟩⟩
          · rw [m0, le_nI (by omega) (by omega)]
            omega
          · rw [e3 (by omega), has1 _ (by omega)] at h
            rw [p1]
            simp only [bs] at ih
            rw [if_pos h] at ih
            exact ih
          · rw [e3 (by omega), has1 _ (by omega)] at h
            rw [p1, orz]
            simp only [bs] at ih
            rw [if_neg h] at ih
            exact ih
      · exact absurd (by decide : (3 : Int32) ≤ 3) h6
      · exact absurd (by decide : (3 : Int32) ≤ 3) h6
  · simp only [if_neg hc] at hR
    exact tX8_about ⟨fun h1 => ⟨fun h2 => ⟨fun h3 => ⟨fun h4 => ⟨fun h5 => ((hc (by simp (disch := omega) only [m0, m3, ne_eq, not_true_eq_false, Rg, tlt, tle, teq, tnI, ts1, tl0, tl1, tl2, tl3, tl4, tl5, tl6, tl7, tl8, tl9, tl10, tl11, tl12, tl13, tl14, tl15, tl16, tl24, tl30, tl33, tl60, tl84, tl96, tl99, tl100, tl200, tlm1] at h1 h2 h3 h4 h5 ⊢ <;> omega)).elim), fun h6 => ⟨((hc (by simp (disch := omega) only [m0, m3, ne_eq, not_true_eq_false, Rg, tlt, tle, teq, tnI, ts1, tl0, tl1, tl2, tl3, tl4, tl5, tl6, tl7, tl8, tl9, tl10, tl11, tl12, tl13, tl14, tl15, tl16, tl24, tl30, tl33, tl60, tl84, tl96, tl99, tl100, tl200, tlm1] at h1 h2 h3 h4 h6 ⊢ <;> omega)).elim), ((hc (by simp (disch := omega) only [m0, m3, ne_eq, not_true_eq_false, Rg, tlt, tle, teq, tnI, ts1, tl0, tl1, tl2, tl3, tl4, tl5, tl6, tl7, tl8, tl9, tl10, tl11, tl12, tl13, tl14, tl15, tl16, tl24, tl30, tl33, tl60, tl84, tl96, tl99, tl100, tl200, tlm1] at h1 h2 h3 h4 h6 ⊢ <;> omega)).elim)⟩⟩, fun h7 => ((hR M (Ag.rf _ _) rfl))⟩, fun h8 => ((hR M (Ag.rf _ _) rfl))⟩, fun h9 => ((hR M (Ag.rf _ _) rfl))⟩, fun h10 => ((hR M (Ag.rf _ _) rfl))⟩
end
