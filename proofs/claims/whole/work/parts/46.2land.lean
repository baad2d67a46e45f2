-- land
section
variable {l : Launch} {G : GT} {D : Nat} {M : Mem} {R : Option Value → Mem → Prop} {b : Nat} {s : Nat → Int32}
def anLand (s : Nat → Int32) (q : Int32) : Int32 := if (q = 0 ∨ q = 1 ∨ q = 2 ∨ q = 3 ∨ q = 4 ∨ q = 5) then (if q = 3 then pcI (brS s (mk (np s))) else if q = 4 then stS s else if q = 5 then mk (nw s) &&& (brS s (mk (np s)) ^^^ (-1)) else s (6 + ix q)) else (-1000000001)
theorem X_land {q : Int32} (hD : 16 ≤ D) (hRel : Rel M) (hR : ∀ M', Ag scX M M' → R (some (.int (anLand (M 101) q))) M') : Tr l G D mX7_land [.ref (G.1 0), .int q] M R := by
  obtain ⟨d, rfl⟩ := dE (show 4 ≤ D by omega)
  have hL := hRel.1.1.1
  have hI := hRel.2.1.1
  have n1 : M 30 1 = nI (np (M 101)) := hL.1.1.trans hI.1.1
  have n6 : M 30 6 = nI (nw (M 101)) := hL.1.2.1.trans hI.2.1.1
  have hp := hI.1.2
  have hw := hI.2.1.2
  have hW := hI.2.1
  unfold anLand at hR
  by_cases hc : (q = 0 ∨ q = 1 ∨ q = 2 ∨ q = 3 ∨ q = 4 ∨ q = 5)
  · simp only [if_pos hc] at hR
    rcases id hc with rfl | rfl | rfl | rfl | rfl | rfl
    · rw [if_neg (by decide), if_neg (by decide), if_neg (by decide)] at hR
      refine tX7_land ⟨fun h1 => ?_, fun h2 => ?_, fun h3 => ?_, fun h4 => ?_, fun h5 => ?_, fun h6 => ?_, fun h7 => fun h8 => fun h9 => fun h10 => fun h11 => fun h12 => (absurd hc (fun hc => by simp (disch := omega) only [n1, n6, ne_eq, not_true_eq_false, Rg, tlt, tle, teq, tnI, ts1, tl0, tl1, tl2, tl3, tl4, tl5, tl6, tl7, tl8, tl9, tl10, tl11, tl12, tl13, tl14, tl15, tl16, tl24, tl30, tl33, tl60, tl84, tl96, tl99, tl100, tl200, tlm1] at h7 h8 h9 h10 h11 h12 hc <;> omega))⟩
      all_goals first | exact absurd (by assumption : (0 : Int32) = 1) (by decide) | exact absurd (by assumption : (0 : Int32) = 2) (by decide) | exact absurd (by assumption : (0 : Int32) = 3) (by decide) | exact absurd (by assumption : (0 : Int32) = 4) (by decide) | exact absurd (by assumption : (0 : Int32) = 5) (by decide) | exact absurd rfl (by assumption : ¬ (0 : Int32) = 0) | skip
      rw [show 6 + ix (0 : Int32) = 6 from by decide] at hR
      rw [show M 30 13 = M 101 6 from hL.1.2.2.2.2.2.1]
      exact hR M (Ag.rf _ _)
    · rw [if_neg (by decide), if_neg (by decide), if_neg (by decide)] at hR
      refine tX7_land ⟨fun h1 => ?_, fun h2 => ?_, fun h3 => ?_, fun h4 => ?_, fun h5 => ?_, fun h6 => ?_, fun h7 => fun h8 => fun h9 => fun h10 => fun h11 => fun h12 => (absurd hc (fun hc => by simp (disch := omega) only [n1, n6, ne_eq, not_true_eq_false, Rg, tlt, tle, teq, tnI, ts1, tl0, tl1, tl2, tl3, tl4, tl5, tl6, tl7, tl8, tl9, tl10, tl11, tl12, tl13, tl14, tl15, tl16, tl24, tl30, tl33, tl60, tl84, tl96, tl99, tl100, tl200, tlm1] at h7 h8 h9 h10 h11 h12 hc <;> omega))⟩
      all_goals first | exact absurd (by assumption : (1 : Int32) = 0) (by decide) | exact absurd (by assumption : (1 : Int32) = 2) (by decide) | exact absurd (by assumption : (1 : Int32) = 3) (by decide) | exact absurd (by assumption : (1 : Int32) = 4) (by decide) | exact absurd (by assumption : (1 : Int32) = 5) (by decide) | exact absurd rfl (by assumption : ¬ (1 : Int32) = 1) | skip
      rw [show 6 + ix (1 : Int32) = 7 from by decide] at hR
      rw [show M 30 14 = M 101 7 from hL.1.2.2.2.2.2.2.1]
      exact hR M (Ag.rf _ _)
    · rw [if_neg (by decide), if_neg (by decide), if_neg (by decide)] at hR
      refine tX7_land ⟨fun h1 => ?_, fun h2 => ?_, fun h3 => ?_, fun h4 => ?_, fun h5 => ?_, fun h6 => ?_, fun h7 => fun h8 => fun h9 => fun h10 => fun h11 => fun h12 => (absurd hc (fun hc => by simp (disch := omega) only [n1, n6, ne_eq, not_true_eq_false, Rg, tlt, tle, teq, tnI, ts1, tl0, tl1, tl2, tl3, tl4, tl5, tl6, tl7, tl8, tl9, tl10, tl11, tl12, tl13, tl14, tl15, tl16, tl24, tl30, tl33, tl60, tl84, tl96, tl99, tl100, tl200, tlm1] at h7 h8 h9 h10 h11 h12 hc <;> omega))⟩
      all_goals first | exact absurd (by assumption : (2 : Int32) = 0) (by decide) | exact absurd (by assumption : (2 : Int32) = 1) (by decide) | exact absurd (by assumption : (2 : Int32) = 3) (by decide) | exact absurd (by assumption : (2 : Int32) = 4) (by decide) | exact absurd (by assumption : (2 : Int32) = 5) (by decide) | exact absurd rfl (by assumption : ¬ (2 : Int32) = 2) | skip
      rw [show 6 + ix (2 : Int32) = 8 from by decide] at hR
      rw [show M 30 15 = M 101 8 from hL.1.2.2.2.2.2.2.2.1]
      exact hR M (Ag.rf _ _)
    · rw [if_pos rfl] at hR
      refine tX7_land ⟨fun h1 => ?_, fun h2 => ?_, fun h3 => ?_, fun h4 => ?_, fun h5 => ?_, fun h6 => ?_, fun h7 => fun h8 => fun h9 => fun h10 => fun h11 => fun h12 => (absurd hc (fun hc => by simp (disch := omega) only [n1, n6, ne_eq, not_true_eq_false, Rg, tlt, tle, teq, tnI, ts1, tl0, tl1, tl2, tl3, tl4, tl5, tl6, tl7, tl8, tl9, tl10, tl11, tl12, tl13, tl14, tl15, tl16, tl24, tl30, tl33, tl60, tl84, tl96, tl99, tl100, tl200, tlm1] at h7 h8 h9 h10 h11 h12 hc <;> omega))⟩
      all_goals first | exact absurd (by assumption : (3 : Int32) = 0) (by decide) | exact absurd (by assumption : (3 : Int32) = 1) (by decide) | exact absurd (by assumption : (3 : Int32) = 2) (by decide) | exact absurd (by assumption : (3 : Int32) = 4) (by decide) | exact absurd (by assumption : (3 : Int32) = 5) (by decide) | exact absurd rfl (by assumption : ¬ (3 : Int32) = 3) | skip
      exact sX1_waysBorne ld30 (by omega) hI hL (kI_i (bX7_land_71 (hR M (Ag.rf _ _))))
    · rw [if_neg (by decide), if_pos rfl] at hR
      refine tX7_land ⟨fun h1 => ?_, fun h2 => ?_, fun h3 => ?_, fun h4 => ?_, fun h5 => ?_, fun h6 => ?_, fun h7 => fun h8 => fun h9 => fun h10 => fun h11 => fun h12 => (absurd hc (fun hc => by simp (disch := omega) only [n1, n6, ne_eq, not_true_eq_false, Rg, tlt, tle, teq, tnI, ts1, tl0, tl1, tl2, tl3, tl4, tl5, tl6, tl7, tl8, tl9, tl10, tl11, tl12, tl13, tl14, tl15, tl16, tl24, tl30, tl33, tl60, tl84, tl96, tl99, tl100, tl200, tlm1] at h7 h8 h9 h10 h11 h12 hc <;> omega))⟩
      all_goals first | exact absurd (by assumption : (4 : Int32) = 0) (by decide) | exact absurd (by assumption : (4 : Int32) = 1) (by decide) | exact absurd (by assumption : (4 : Int32) = 2) (by decide) | exact absurd (by assumption : (4 : Int32) = 3) (by decide) | exact absurd (by assumption : (4 : Int32) = 5) (by decide) | exact absurd rfl (by assumption : ¬ (4 : Int32) = 4) | skip
      rw [show M 30 10 = stS (M 101) from hL.1.2.2.1]
      exact hR M (Ag.rf _ _)
    · rw [if_neg (by decide), if_neg (by decide), if_pos rfl] at hR
      refine tX7_land ⟨fun h1 => ?_, fun h2 => ?_, fun h3 => ?_, fun h4 => ?_, fun h5 => ?_, fun h6 => ?_, fun h7 => fun h8 => fun h9 => fun h10 => fun h11 => fun h12 => (absurd hc (fun hc => by simp (disch := omega) only [n1, n6, ne_eq, not_true_eq_false, Rg, tlt, tle, teq, tnI, ts1, tl0, tl1, tl2, tl3, tl4, tl5, tl6, tl7, tl8, tl9, tl10, tl11, tl12, tl13, tl14, tl15, tl16, tl24, tl30, tl33, tl60, tl84, tl96, tl99, tl100, tl200, tlm1] at h7 h8 h9 h10 h11 h12 hc <;> omega))⟩
      all_goals first | exact absurd (by assumption : (5 : Int32) = 0) (by decide) | exact absurd (by assumption : (5 : Int32) = 1) (by decide) | exact absurd (by assumption : (5 : Int32) = 2) (by decide) | exact absurd (by assumption : (5 : Int32) = 3) (by decide) | exact absurd (by assumption : (5 : Int32) = 4) (by decide) | exact absurd rfl (by assumption : ¬ (5 : Int32) = 5) | skip
      rw [n1, n6]
      exact sX1_skinsOf ld30 (by omega) hI hL (kI_i (bX7_land_101 (hR M (Ag.rf _ _))))
  · simp only [if_neg hc] at hR
    exact tX7_land ⟨fun h1 => ((hc (by simp (disch := omega) only [n1, n6, ne_eq, not_true_eq_false, Rg, tlt, tle, teq, tnI, ts1, tl0, tl1, tl2, tl3, tl4, tl5, tl6, tl7, tl8, tl9, tl10, tl11, tl12, tl13, tl14, tl15, tl16, tl24, tl30, tl33, tl60, tl84, tl96, tl99, tl100, tl200, tlm1] at h1 ⊢ <;> omega)).elim), fun h2 => ((hc (by simp (disch := omega) only [n1, n6, ne_eq, not_true_eq_false, Rg, tlt, tle, teq, tnI, ts1, tl0, tl1, tl2, tl3, tl4, tl5, tl6, tl7, tl8, tl9, tl10, tl11, tl12, tl13, tl14, tl15, tl16, tl24, tl30, tl33, tl60, tl84, tl96, tl99, tl100, tl200, tlm1] at h2 ⊢ <;> omega)).elim), fun h3 => ((hc (by simp (disch := omega) only [n1, n6, ne_eq, not_true_eq_false, Rg, tlt, tle, teq, tnI, ts1, tl0, tl1, tl2, tl3, tl4, tl5, tl6, tl7, tl8, tl9, tl10, tl11, tl12, tl13, tl14, tl15, tl16, tl24, tl30, tl33, tl60, tl84, tl96, tl99, tl100, tl200, tlm1] at h3 ⊢ <;> omega)).elim), fun h4 => ((hc (by simp (disch := omega) only [n1, n6, ne_eq, not_true_eq_false, Rg, tlt, tle, teq, tnI, ts1, tl0, tl1, tl2, tl3, tl4, tl5, tl6, tl7, tl8, tl9, tl10, tl11, tl12, tl13, tl14, tl15, tl16, tl24, tl30, tl33, tl60, tl84, tl96, tl99, tl100, tl200, tlm1] at h4 ⊢ <;> omega)).elim), fun h5 => ((hc (by simp (disch := omega) only [n1, n6, ne_eq, not_true_eq_false, Rg, tlt, tle, teq, tnI, ts1, tl0, tl1, tl2, tl3, tl4, tl5, tl6, tl7, tl8, tl9, tl10, tl11, tl12, tl13, tl14, tl15, tl16, tl24, tl30, tl33, tl60, tl84, tl96, tl99, tl100, tl200, tlm1] at h5 ⊢ <;> omega)).elim), fun h6 => ((hc (by simp (disch := omega) only [n1, n6, ne_eq, not_true_eq_false, Rg, tlt, tle, teq, tnI, ts1, tl0, tl1, tl2, tl3, tl4, tl5, tl6, tl7, tl8, tl9, tl10, tl11, tl12, tl13, tl14, tl15, tl16, tl24, tl30, tl33, tl60, tl84, tl96, tl99, tl100, tl200, tlm1] at h6 ⊢ <;> omega)).elim), fun h7 => fun h8 => fun h9 => fun h10 => fun h11 => fun h12 => (hR M (Ag.rf _ _))⟩
theorem M_land {q : Int32} (hD : 16 ≤ D) (hIS : IS M) (hR : ∀ M', Ag scY M M' → M' 101 = M 101 → R (some (.int (anLand (M 101) q))) M') : Tr l G D mX8_land [.ref (G.1 100), .int q] M R := by
  obtain ⟨d, rfl⟩ := dE (show 4 ≤ D by omega)
  have hI := hIS.1.1
  have m0 : M 101 0 = nI (np (M 101)) := hI.1.1
  have m3 : M 101 3 = nI (nw (M 101)) := hI.2.1.1
  have hp := hI.1.2
  have hw := hI.2.1.2
  have hW := hI.2.1
  unfold anLand at hR
  by_cases hc : (q = 0 ∨ q = 1 ∨ q = 2 ∨ q = 3 ∨ q = 4 ∨ q = 5)
  · simp only [if_pos hc] at hR
    have loop : ∀ q : Int32, (At l G (d + 4) mX8_land 34 [some (.ref (G.1 100)), some (.int q), some (.int (stS (M 101))), some (.int (nI (nw (M 101))))] [] M R) → At l G (d + 4) mX8_land 34 [some (.ref (G.1 100)), some (.int q), some (.int 0), some (.int 0)] [] M R := by
      intro q last
      refine upL (fun k => At l G (d + 4) mX8_land 34 [some (.ref (G.1 100)), some (.int q), some (.int (bs (fun w => decide (sd (M 101) w = 1)) k)), some (.int (nI k))] [] M R) (nw (M 101)) last ?_ 0 (Nat.zero_le _)
      intro k hk ih
      refine bX8_land_34 ⟨fun h => absurd h ?_, fun _ => ⟨vw2 (by omega), fun h => ?_, fun h => ?_⟩⟩
      · rw [m3, le_nI (by omega) (by omega)]
        omega
      · rw [f2 (by omega)] at h
        rw [p1]
        simp only [bs] at ih
        rw [if_pos (by simp [h])] at ih
        exact ih
      · rw [f2 (by omega)] at h
        rw [p1, orz]
        simp only [bs] at ih
        rw [if_neg (by simp [h])] at ih
        exact ih
    have out : M 101 3 ≤ nI (nw (M 101)) := by rw [m3, le_nI (by omega) (by omega)]; exact Nat.le_refl _
    rcases id hc with rfl | rfl | rfl | rfl | rfl | rfl
    · rw [if_neg (by decide), if_neg (by decide), if_neg (by decide)] at hR
      refine tX8_land ⟨fun h1 => ⟨fun h2 => ⟨fun h3 => ?_, fun h4 => ⟨?_, ?_⟩⟩, fun h5 => (absurd hc (fun hc => by simp (disch := omega) only [m0, m3, ne_eq, not_true_eq_false, Rg, tlt, tle, teq, tnI, ts1, tl0, tl1, tl2, tl3, tl4, tl5, tl6, tl7, tl8, tl9, tl10, tl11, tl12, tl13, tl14, tl15, tl16, tl24, tl30, tl33, tl60, tl84, tl96, tl99, tl100, tl200, tlm1] at h1 h5 hc <;> omega))⟩, fun h6 => (absurd hc (fun hc => by simp (disch := omega) only [m0, m3, ne_eq, not_true_eq_false, Rg, tlt, tle, teq, tnI, ts1, tl0, tl1, tl2, tl3, tl4, tl5, tl6, tl7, tl8, tl9, tl10, tl11, tl12, tl13, tl14, tl15, tl16, tl24, tl30, tl33, tl60, tl84, tl96, tl99, tl100, tl200, tlm1] at h6 hc <;> omega))⟩
      · exact absurd h3 (by decide)
      · rw [show (6 : Int32) + 0 = nI 6 from by decide]; exact vpn (by decide) (by decide)
      · rw [show 6 + ix (0 : Int32) = 6 from by decide] at hR
        rw [show ix ((6 : Int32) + 0) = 6 from by decide]
        exact hR M (Ag.rf _ _) rfl
    · rw [if_neg (by decide), if_neg (by decide), if_neg (by decide)] at hR
      refine tX8_land ⟨fun h1 => ⟨fun h2 => ⟨fun h3 => ?_, fun h4 => ⟨?_, ?_⟩⟩, fun h5 => (absurd hc (fun hc => by simp (disch := omega) only [m0, m3, ne_eq, not_true_eq_false, Rg, tlt, tle, teq, tnI, ts1, tl0, tl1, tl2, tl3, tl4, tl5, tl6, tl7, tl8, tl9, tl10, tl11, tl12, tl13, tl14, tl15, tl16, tl24, tl30, tl33, tl60, tl84, tl96, tl99, tl100, tl200, tlm1] at h1 h5 hc <;> omega))⟩, fun h6 => (absurd hc (fun hc => by simp (disch := omega) only [m0, m3, ne_eq, not_true_eq_false, Rg, tlt, tle, teq, tnI, ts1, tl0, tl1, tl2, tl3, tl4, tl5, tl6, tl7, tl8, tl9, tl10, tl11, tl12, tl13, tl14, tl15, tl16, tl24, tl30, tl33, tl60, tl84, tl96, tl99, tl100, tl200, tlm1] at h6 hc <;> omega))⟩
      · exact absurd h3 (by decide)
      · rw [show (6 : Int32) + 1 = nI 7 from by decide]; exact vpn (by decide) (by decide)
      · rw [show 6 + ix (1 : Int32) = 7 from by decide] at hR
        rw [show ix ((6 : Int32) + 1) = 7 from by decide]
        exact hR M (Ag.rf _ _) rfl
    · rw [if_neg (by decide), if_neg (by decide), if_neg (by decide)] at hR
      refine tX8_land ⟨fun h1 => ⟨fun h2 => ⟨fun h3 => ?_, fun h4 => ⟨?_, ?_⟩⟩, fun h5 => (absurd hc (fun hc => by simp (disch := omega) only [m0, m3, ne_eq, not_true_eq_false, Rg, tlt, tle, teq, tnI, ts1, tl0, tl1, tl2, tl3, tl4, tl5, tl6, tl7, tl8, tl9, tl10, tl11, tl12, tl13, tl14, tl15, tl16, tl24, tl30, tl33, tl60, tl84, tl96, tl99, tl100, tl200, tlm1] at h1 h5 hc <;> omega))⟩, fun h6 => (absurd hc (fun hc => by simp (disch := omega) only [m0, m3, ne_eq, not_true_eq_false, Rg, tlt, tle, teq, tnI, ts1, tl0, tl1, tl2, tl3, tl4, tl5, tl6, tl7, tl8, tl9, tl10, tl11, tl12, tl13, tl14, tl15, tl16, tl24, tl30, tl33, tl60, tl84, tl96, tl99, tl100, tl200, tlm1] at h6 hc <;> omega))⟩
      · exact absurd h3 (by decide)
      · rw [show (6 : Int32) + 2 = nI 8 from by decide]; exact vpn (by decide) (by decide)
      · rw [show 6 + ix (2 : Int32) = 8 from by decide] at hR
        rw [show ix ((6 : Int32) + 2) = 8 from by decide]
        exact hR M (Ag.rf _ _) rfl
    · rw [if_pos rfl] at hR
      refine tX8_land ⟨fun h1 => ⟨fun h2 => ⟨fun h3 => ?_, fun h4 => ⟨?_, ?_⟩⟩, fun h5 => (absurd hc (fun hc => by simp (disch := omega) only [m0, m3, ne_eq, not_true_eq_false, Rg, tlt, tle, teq, tnI, ts1, tl0, tl1, tl2, tl3, tl4, tl5, tl6, tl7, tl8, tl9, tl10, tl11, tl12, tl13, tl14, tl15, tl16, tl24, tl30, tl33, tl60, tl84, tl96, tl99, tl100, tl200, tlm1] at h1 h5 hc <;> omega))⟩, fun h6 => (absurd hc (fun hc => by simp (disch := omega) only [m0, m3, ne_eq, not_true_eq_false, Rg, tlt, tle, teq, tnI, ts1, tl0, tl1, tl2, tl3, tl4, tl5, tl6, tl7, tl8, tl9, tl10, tl11, tl12, tl13, tl14, tl15, tl16, tl24, tl30, tl33, tl60, tl84, tl96, tl99, tl100, tl200, tlm1] at h6 hc <;> omega))⟩
      · refine loop _ (bX8_land_34 ⟨fun _ => ?_, fun h => absurd out h⟩)
        refine ⟨fun _ => ?_, fun h => absurd rfl h⟩
        obtain ⟨m, hm, e⟩ := br_all hI
        exact sX8_known (by omega) hI.1 ⟨by rw [e, ix_nI (by omega)]; exact hm, by rw [e, ix_nI (by omega)]⟩ (kI_i (bX8_land_77 (hR M (Ag.rf _ _) rfl)))
      · exact absurd (by decide : (3 : Int32) ≤ 3) h4
      · exact absurd (by decide : (3 : Int32) ≤ 3) h4
    · rw [if_neg (by decide), if_pos rfl] at hR
      refine tX8_land ⟨fun h1 => ⟨fun h2 => ⟨fun h3 => ?_, fun h4 => ⟨?_, ?_⟩⟩, fun h5 => (absurd hc (fun hc => by simp (disch := omega) only [m0, m3, ne_eq, not_true_eq_false, Rg, tlt, tle, teq, tnI, ts1, tl0, tl1, tl2, tl3, tl4, tl5, tl6, tl7, tl8, tl9, tl10, tl11, tl12, tl13, tl14, tl15, tl16, tl24, tl30, tl33, tl60, tl84, tl96, tl99, tl100, tl200, tlm1] at h1 h5 hc <;> omega))⟩, fun h6 => (absurd hc (fun hc => by simp (disch := omega) only [m0, m3, ne_eq, not_true_eq_false, Rg, tlt, tle, teq, tnI, ts1, tl0, tl1, tl2, tl3, tl4, tl5, tl6, tl7, tl8, tl9, tl10, tl11, tl12, tl13, tl14, tl15, tl16, tl24, tl30, tl33, tl60, tl84, tl96, tl99, tl100, tl200, tlm1] at h6 hc <;> omega))⟩
      · refine loop _ (bX8_land_34 ⟨fun _ => ?_, fun h => absurd out h⟩)
        refine ⟨fun h => absurd h (by decide), fun _ => ⟨fun _ => hR M (Ag.rf _ _) rfl, fun h => absurd rfl h⟩⟩
      · exact absurd (by decide : (3 : Int32) ≤ 4) h4
      · exact absurd (by decide : (3 : Int32) ≤ 4) h4
    · rw [if_neg (by decide), if_neg (by decide), if_pos rfl] at hR
      refine tX8_land ⟨fun h1 => ⟨fun h2 => ⟨fun h3 => ?_, fun h4 => ⟨?_, ?_⟩⟩, fun h5 => (absurd hc (fun hc => by simp (disch := omega) only [m0, m3, ne_eq, not_true_eq_false, Rg, tlt, tle, teq, tnI, ts1, tl0, tl1, tl2, tl3, tl4, tl5, tl6, tl7, tl8, tl9, tl10, tl11, tl12, tl13, tl14, tl15, tl16, tl24, tl30, tl33, tl60, tl84, tl96, tl99, tl100, tl200, tlm1] at h1 h5 hc <;> omega))⟩, fun h6 => (absurd hc (fun hc => by simp (disch := omega) only [m0, m3, ne_eq, not_true_eq_false, Rg, tlt, tle, teq, tnI, ts1, tl0, tl1, tl2, tl3, tl4, tl5, tl6, tl7, tl8, tl9, tl10, tl11, tl12, tl13, tl14, tl15, tl16, tl24, tl30, tl33, tl60, tl84, tl96, tl99, tl100, tl200, tlm1] at h6 hc <;> omega))⟩
      · refine loop _ (bX8_land_34 ⟨fun _ => ?_, fun h => absurd out h⟩)
        refine ⟨fun h => absurd h (by decide), fun _ => ⟨fun h => absurd h (by decide), fun _ => ?_⟩⟩
        rw [m0, m3]
        exact sX8_borne (by omega) hI.1 (kI_i (bX8_land_107 (hR M (Ag.rf _ _) rfl)))
      · exact absurd (by decide : (3 : Int32) ≤ 5) h4
      · exact absurd (by decide : (3 : Int32) ≤ 5) h4
  · simp only [if_neg hc] at hR
    exact tX8_land ⟨fun h1 => ⟨fun h2 => ⟨fun h3 => ((hc (by simp (disch := omega) only [m0, m3, ne_eq, not_true_eq_false, Rg, tlt, tle, teq, tnI, ts1, tl0, tl1, tl2, tl3, tl4, tl5, tl6, tl7, tl8, tl9, tl10, tl11, tl12, tl13, tl14, tl15, tl16, tl24, tl30, tl33, tl60, tl84, tl96, tl99, tl100, tl200, tlm1] at h1 h2 h3 ⊢ <;> omega)).elim), fun h4 => ⟨((hc (by simp (disch := omega) only [m0, m3, ne_eq, not_true_eq_false, Rg, tlt, tle, teq, tnI, ts1, tl0, tl1, tl2, tl3, tl4, tl5, tl6, tl7, tl8, tl9, tl10, tl11, tl12, tl13, tl14, tl15, tl16, tl24, tl30, tl33, tl60, tl84, tl96, tl99, tl100, tl200, tlm1] at h1 h2 h4 ⊢ <;> omega)).elim), ((hc (by simp (disch := omega) only [m0, m3, ne_eq, not_true_eq_false, Rg, tlt, tle, teq, tnI, ts1, tl0, tl1, tl2, tl3, tl4, tl5, tl6, tl7, tl8, tl9, tl10, tl11, tl12, tl13, tl14, tl15, tl16, tl24, tl30, tl33, tl60, tl84, tl96, tl99, tl100, tl200, tlm1] at h1 h2 h4 ⊢ <;> omega)).elim)⟩⟩, fun h5 => ((hR M (Ag.rf _ _) rfl))⟩, fun h6 => ((hR M (Ag.rf _ _) rfl))⟩
end
