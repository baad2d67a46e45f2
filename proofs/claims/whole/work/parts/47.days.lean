-- days
section
variable {l : Launch} {G : GT} {D : Nat} {M : Mem} {R : Option Value → Mem → Prop} {b : Nat} {s : Nat → Int32}
def anDays (s : Nat → Int32) (n : Int32) : Int32 := if 1 ≤ n.toInt ∧ n.toInt ≤ 100 then dysS (min (9999 - ix (s 2)) (ix n)) s 6 - s 6 else (-1000000001)
def nxDays (s : Nat → Int32) (n : Int32) : Nat → Int32 := if 1 ≤ n.toInt ∧ n.toInt ≤ 100 then dysS (min (9999 - ix (s 2)) (ix n)) s else s
theorem X_days {n : Int32} (hD : 28 ≤ D) (hRel : Rel M) (hR : ∀ M', Ag (scX ++ ldC 30) M M' → LR M' 30 (nxDays (M 101) n) → R (some (.int (anDays (M 101) n))) M') : Tr l G D mX7_days [.ref (G.1 0), .int n] M R := by
  obtain ⟨d, rfl⟩ := dE (show 4 ≤ D by omega)
  have hL := hRel.1.1.1
  have hI := hRel.2.1.1
  have n1 : M 30 1 = nI (np (M 101)) := hL.1.1.trans hI.1.1
  have n6 : M 30 6 = nI (nw (M 101)) := hL.1.2.1.trans hI.2.1.1
  have hp := hI.1.2
  have hw := hI.2.1.2
  have hW := hI.2.1
  unfold anDays nxDays at hR
  by_cases hc : 1 ≤ n.toInt ∧ n.toInt ≤ 100
  · simp only [if_pos hc] at hR
    obtain ⟨n, hn, rfl⟩ := (show Rg 101 n from ⟨by have := hc.1; omega, by have := hc.2; omega⟩).ex
    have xn := ix_nI (show n < 2 ^ 31 by omega)
    try simp only [xn] at hR
    obtain ⟨ww, dd, e6, e2, hd9, hwd⟩ := hRel.2.1.2
    rw [e2, ix_nI (show dd < 2 ^ 31 by omega)] at hR
    
    have e16 : M 30 16 = nI dd := (hL.1.2.2.2.2.2.2.2.2.1).trans e2
    refine tX7_days ⟨fun h1 => (absurd hc (fun hc => by simp (disch := omega) only [n1, n6, ne_eq, not_true_eq_false, Rg, tlt, tle, teq, tnI, ts1, tl0, tl1, tl2, tl3, tl4, tl5, tl6, tl7, tl8, tl9, tl10, tl11, tl12, tl13, tl14, tl15, tl16, tl24, tl30, tl33, tl60, tl84, tl96, tl99, tl100, tl200, tlm1] at h1 hc <;> omega)), fun h2 => ⟨fun h3 => ?_, fun h4 => (absurd hc (fun hc => by simp (disch := omega) only [n1, n6, ne_eq, not_true_eq_false, Rg, tlt, tle, teq, tnI, ts1, tl0, tl1, tl2, tl3, tl4, tl5, tl6, tl7, tl8, tl9, tl10, tl11, tl12, tl13, tl14, tl15, tl16, tl24, tl30, tl33, tl60, tl84, tl96, tl99, tl100, tl200, tlm1] at h2 h4 hc <;> omega))⟩⟩
    rw [e16, show (9999 : Int32) = nI 9999 from rfl, sub_nI hd9 (by decide)]
    have em : (if nI (9999 - dd) < nI n then nI (9999 - dd) else nI n) = nI (min (9999 - dd) n) := by
      by_cases h : 9999 - dd < n
      · rw [if_pos ((lt_nI (by omega) (by omega)).mpr h), Nat.min_eq_left (by omega)]
      · rw [if_neg (fun q => h ((lt_nI (by omega) (by omega)).mp q)), Nat.min_eq_right (by omega)]
    rw [em]
    refine sX1_passDays ld30 (by omega) (by omega) hRel.xs (fun M' hA hX' => kV_i (bX7_days_44 ?_))
    have hR' := hR M' (hA.sub (fun k hk => List.mem_append_right _ hk)) hX'.1
    rw [show M' 30 13 = _ from hX'.1.1.2.2.2.2.2.1, show M 30 13 = M 101 6 from hL.1.2.2.2.2.2.1]
    exact hR'
  · simp only [if_neg hc] at hR
    exact tX7_days ⟨fun h1 => (hR M (Ag.rf _ _) hL), fun h2 => ⟨fun h3 => ((hc (by simp (disch := omega) only [n1, n6, ne_eq, not_true_eq_false, Rg, tlt, tle, teq, tnI, ts1, tl0, tl1, tl2, tl3, tl4, tl5, tl6, tl7, tl8, tl9, tl10, tl11, tl12, tl13, tl14, tl15, tl16, tl24, tl30, tl33, tl60, tl84, tl96, tl99, tl100, tl200, tlm1] at h2 h3 ⊢ <;> omega)).elim), fun h4 => (hR M (Ag.rf _ _) hL)⟩⟩
theorem M_days {n : Int32} (hD : 32 ≤ D) (hIS : IS M) (hR : ∀ M', Ag scY M M' → M' 101 = nxDays (M 101) n → R (some (.int (anDays (M 101) n))) M') : Tr l G D mX8_days [.ref (G.1 100), .int n] M R := by
  obtain ⟨d, rfl⟩ := dE (show 4 ≤ D by omega)
  have hI := hIS.1.1
  have m0 : M 101 0 = nI (np (M 101)) := hI.1.1
  have m3 : M 101 3 = nI (nw (M 101)) := hI.2.1.1
  have hp := hI.1.2
  have hw := hI.2.1.2
  have hW := hI.2.1
  unfold anDays nxDays at hR
  by_cases hc : 1 ≤ n.toInt ∧ n.toInt ≤ 100
  · simp only [if_pos hc] at hR
    obtain ⟨n, hn, rfl⟩ := (show Rg 101 n from ⟨by have := hc.1; omega, by have := hc.2; omega⟩).ex
    have xn := ix_nI (show n < 2 ^ 31 by omega)
    try simp only [xn] at hR
    obtain ⟨ww, dd, e6, e2, hd9, hwd⟩ := hIS.1.2
    rw [e2, ix_nI (show dd < 2 ^ 31 by omega)] at hR
    
    refine tX8_days ⟨fun h1 => ⟨fun h2 => ⟨fun h3 => ?_, fun h4 => ?_⟩, fun h5 => (absurd hc (fun hc => by simp (disch := omega) only [m0, m3, ne_eq, not_true_eq_false, Rg, tlt, tle, teq, tnI, ts1, tl0, tl1, tl2, tl3, tl4, tl5, tl6, tl7, tl8, tl9, tl10, tl11, tl12, tl13, tl14, tl15, tl16, tl24, tl30, tl33, tl60, tl84, tl96, tl99, tl100, tl200, tlm1] at h1 h5 hc <;> omega))⟩, fun h6 => (absurd hc (fun hc => by simp (disch := omega) only [m0, m3, ne_eq, not_true_eq_false, Rg, tlt, tle, teq, tnI, ts1, tl0, tl1, tl2, tl3, tl4, tl5, tl6, tl7, tl8, tl9, tl10, tl11, tl12, tl13, tl14, tl15, tl16, tl24, tl30, tl33, tl60, tl84, tl96, tl99, tl100, tl200, tlm1] at h6 hc <;> omega))⟩
    · rw [e2, show (9999 : Int32) = nI 9999 from rfl, sub_nI hd9 (by decide)] at h3 ⊢
      rw [le_nI (by omega) (by omega)] at h3
      rw [Nat.min_eq_left h3] at hR
      exact sX8_goesOnMany (by omega) (by omega) hI.1 hI.2.1 hI.2.2.1 (fun M' hA e => kV_i (bX8_days_48 (by rw [e]; exact hR M' (hA.sub (by decide)) e)))
    · rw [e2, show (9999 : Int32) = nI 9999 from rfl, sub_nI hd9 (by decide), le_nI (by omega) (by omega)] at h4
      rw [Nat.min_eq_right (by omega)] at hR
      exact sX8_goesOnMany (by omega) (by omega) hI.1 hI.2.1 hI.2.2.1 (fun M' hA e => kV_i (bX8_days_48 (by rw [e]; exact hR M' (hA.sub (by decide)) e)))
  · simp only [if_neg hc] at hR
    exact tX8_days ⟨fun h1 => ⟨fun h2 => ⟨fun h3 => ((hc (by simp (disch := omega) only [m0, m3, ne_eq, not_true_eq_false, Rg, tlt, tle, teq, tnI, ts1, tl0, tl1, tl2, tl3, tl4, tl5, tl6, tl7, tl8, tl9, tl10, tl11, tl12, tl13, tl14, tl15, tl16, tl24, tl30, tl33, tl60, tl84, tl96, tl99, tl100, tl200, tlm1] at h1 h2 h3 ⊢ <;> omega)).elim), fun h4 => ((hc (by simp (disch := omega) only [m0, m3, ne_eq, not_true_eq_false, Rg, tlt, tle, teq, tnI, ts1, tl0, tl1, tl2, tl3, tl4, tl5, tl6, tl7, tl8, tl9, tl10, tl11, tl12, tl13, tl14, tl15, tl16, tl24, tl30, tl33, tl60, tl84, tl96, tl99, tl100, tl200, tlm1] at h1 h2 h4 ⊢ <;> omega)).elim)⟩, fun h5 => ((hR M (Ag.rf _ _) rfl))⟩, fun h6 => ((hR M (Ag.rf _ _) rfl))⟩
end
