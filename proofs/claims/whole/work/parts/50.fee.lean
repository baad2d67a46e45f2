-- fee, fine
theorem t44 (x : Int32) : (x - 4).toInt = (x.toInt - 4 + 2147483648) % 4294967296 - 2147483648 := by
  rw [Int32.toInt_sub]
  have h : (4 : Int32).toInt = 4 := by decide
  rw [h]
  rw [Int.bmod_def]
  split <;> omega
theorem on_is {s : Nat → Int32} (hT : TI s) (q : Int32) : (ctS s q = -1 ∧ onS (ctS s q) = -1000000005) ∨ ∃ t, t < nt s ∧ ctS s q = nI t ∧ onS (ctS s q) = nI t ∧ nI t ≠ -1000000005 ∧ 0 ≤ ctS s q ∧ s (84 + 200 * t) = q := by
  have h14 := hT.2.1
  rcases cn_is s q (nt s) with h | ⟨t, h1, h2, h3⟩
  · exact Or.inl ⟨h, by rw [show ctS s q = -1 from h]; rfl⟩
  · have h2 : ctS s q = nI t := h2
    have hpos : (0 : Int32) ≤ ctS s q := by rw [h2]; exact zl t (by omega)
    refine Or.inr ⟨t, h1, h2, ?_, ?_, hpos, h3⟩
    · unfold onS; rw [if_neg (Int32.not_lt.mpr hpos), h2]
    · intro e
      have := zl t (by omega)
      rw [e] at this
      exact absurd this (by decide)
theorem nm_1 {s : Nat → Int32} {t i : Nat} (hw : WfT s t) (h1 : s (84 + 200 * t) = 1) (hi : i < tMany s t) (hn : tWh s t i = 1) : tVa s t i = 107 ∨ tVa s t i = 105 := by
  have hq : nmOk (s (84 + 200 * t)) (tVa s t i) := by
    rcases hw.2.2.2.2 i hi with h | h | h
    · exact absurd (hn.symm.trans h.1) (by decide)
    · exact h.2
    · exact absurd (hn.symm.trans h.1) (by decide)
  rw [h1] at hq
  unfold nmOk at hq
  rcases hq with ⟨h, -⟩ | ⟨-, h⟩ | ⟨h, -⟩
  · exact absurd h (by decide)
  · exact h
  · exact absurd h (by decide)
theorem nm_2 {s : Nat → Int32} {t i : Nat} (hw : WfT s t) (h1 : s (84 + 200 * t) = 2) (hi : i < tMany s t) (hn : tWh s t i = 1) : tVa s t i = 115 ∨ tVa s t i = 112 := by
  have hq : nmOk (s (84 + 200 * t)) (tVa s t i) := by
    rcases hw.2.2.2.2 i hi with h | h | h
    · exact absurd (hn.symm.trans h.1) (by decide)
    · exact h.2
    · exact absurd (hn.symm.trans h.1) (by decide)
  rw [h1] at hq
  unfold nmOk at hq
  rcases hq with ⟨h, -⟩ | ⟨h, -⟩ | ⟨-, h⟩
  · exact absurd h (by decide)
  · exact absurd h (by decide)
  · exact h
section
variable {l : Launch} {G : GT} {D : Nat} {M : Mem} {R : Option Value → Mem → Prop} {b : Nat} {s : Nat → Int32}
def anFee (s : Nat → Int32) : Int32 := if 0 ≤ ctS s 1 then evS s (ix (ctS s 1)) (nmX (s 6) (s 7) 0) else s 6
theorem X_fee (hD : 16 ≤ D) (hRel : Rel M) (hR : ∀ M', Ag scX M M' → R (some (.int (anFee (M 101)))) M') : Tr l G D mX7_fee [.ref (G.1 0)] M R := by
  obtain ⟨d, rfl⟩ := dE (show 4 ≤ D by omega)
  have hL := hRel.1.1.1
  have hI := hRel.2.1.1
  have n1 : M 30 1 = nI (np (M 101)) := hL.1.1.trans hI.1.1
  have n6 : M 30 6 = nI (nw (M 101)) := hL.1.2.1.trans hI.2.1.1
  have hp := hI.1.2
  have hw := hI.2.1.2
  have hW := hI.2.1
  unfold anFee at hR
  have hT := hI.2.2.1
  have h14 := hT.2.1
  have e8 : M 38 1 = onS (ctS (M 101) 1) := hL.2.2.2.2.2.2.2.2 1 (by decide)
  have e13 : M 30 13 = M 101 6 := hL.1.2.2.2.2.2.1
  have e14 : M 30 14 = M 101 7 := hL.1.2.2.2.2.2.2.1
  refine tX7_fee ?_
  rw [e8, e13, e14]
  rcases on_is hT 1 with ⟨h1, h2⟩ | ⟨t, h1, h2, h3, h4, h5, h6⟩
  · rw [h2]
    rw [if_neg (by rw [h1]; decide)] at hR
    exact ⟨fun _ => hR M (Ag.rf _ _), fun h => absurd rfl h⟩
  · rw [h3]
    rw [if_pos h5, h2, ix_nI (by omega)] at hR
    exact ⟨fun h => absurd h h4, fun _ => sX2_valueOf (by omega) (by omega) (hT.2.2 t h1) (hRel.1.1.2 t h1) (fun M' hA => kI_i (bX7_fee_49 (hR M' (hA.sub (by decide)))))⟩
theorem M_fee (hD : 16 ≤ D) (hIS : IS M) (hR : ∀ M', Ag scY M M' → M' 101 = M 101 → R (some (.int (anFee (M 101)))) M') : Tr l G D mX8_fee [.ref (G.1 100)] M R := by
  obtain ⟨d, rfl⟩ := dE (show 4 ≤ D by omega)
  have hI := hIS.1.1
  have m0 : M 101 0 = nI (np (M 101)) := hI.1.1
  have m3 : M 101 3 = nI (nw (M 101)) := hI.2.1.1
  have hp := hI.1.2
  have hw := hI.2.1.2
  have hW := hI.2.1
  unfold anFee at hR
  have hT := hI.2.2.1
  have h14 := hT.2.1
  refine tX8_fee (sX8_counts (by omega) ⟨hT.1, hT.2.1⟩ (kI_i (bX8_fee_5 ⟨fun h => ?_, fun h => ?_⟩)))
  · intro M2 e2
    rcases on_is hT 1 with ⟨h1, h2⟩ | ⟨t, h1, h2, h3, h4, h5, h6⟩
    · exact absurd h (by rw [h1]; decide)
    rw [if_pos h5, h2, ix_nI (by omega)] at hR
    rw [h2]
    have hA2 : Ag [115, 116] M M2 := by rw [e2]; exact ((Ag.rf _ M).ua (by decide) _).ua (by decide) _
    have e101 := hA2 101 (by decide)
    have hwf := hT.2.2 t h1
    refine sX8_worked (by omega) (by omega) (by rw [e101]; exact hwf) (nmX (M 101 6) (M 101 7) 0) ?_ ?_
    · rw [e101, e2]
      intro i hi hn
      rcases nm_1 hwf h6 hi hn with q | q
      · rw [q]
        simp (disch := decide) only [um_s, um_n, pk_un, show ix 107 = 107 from by decide, pk_us]
        rfl
      · rw [q]
        simp (disch := decide) only [um_s, um_n, pk_un, show ix 105 = 105 from by decide, pk_us]
        rfl
    · intro M' hA
      rw [e101]
      exact kI_i (bX8_fee_51 (hR M' ((hA2.tr (hA.sub (by decide))).sub (by decide)) ((hA 101 (by decide)).trans e101)))
  · rw [if_neg h] at hR
    exact hR M (Ag.rf _ _) rfl
def anFine (s : Nat → Int32) (k : Int32) : Int32 := if Rg (np s) k then (if 0 ≤ ctS s 2 then evS s (ix (ctS s 2)) (nmX (pcI (s (13 + 4 * ix k))) (s (11 + 4 * ix k)) 0) else pcI (s (13 + 4 * ix k))) else (-1000000001)
theorem X_fine {k : Int32} (hD : 16 ≤ D) (hRel : Rel M) (hR : ∀ M', Ag scX M M' → R (some (.int (anFine (M 101) k))) M') : Tr l G D mX7_fine [.ref (G.1 0), .int k] M R := by
  obtain ⟨d, rfl⟩ := dE (show 4 ≤ D by omega)
  have hL := hRel.1.1.1
  have hI := hRel.2.1.1
  have n1 : M 30 1 = nI (np (M 101)) := hL.1.1.trans hI.1.1
  have n6 : M 30 6 = nI (nw (M 101)) := hL.1.2.1.trans hI.2.1.1
  have hp := hI.1.2
  have hw := hI.2.1.2
  have hW := hI.2.1
  unfold anFine at hR
  by_cases hc : Rg (np (M 101)) k
  · simp only [if_pos hc] at hR
    obtain ⟨k, hk, rfl⟩ := hc.ex
    have xk := ix_nI (show k < 2 ^ 31 by omega)
    try simp only [xk] at hR
    have hT := hI.2.2.1
    have h14 := hT.2.1
    have l2 : M 32 k = pl (M 101) k := hL.2.2.1 k (by omega)
    have l4 : M 34 k = sk (M 101) k := hL.2.2.2.2.1 k (by omega)
    have hsk := (hI.2.2.2.1 k hk).2.2.2
    obtain ⟨m, hm, em⟩ := small_bits (x := sk (M 101) k) (n := 14) (by decide) (fun j hj => by have := hsk j hj; omega)
    have epc : pcI (M 101 (13 + 4 * k)) = nI (pop 14 m) := by rw [show M 101 (13 + 4 * k) = nI m from em]; show nI (pop 14 (ix (nI m))) = _; rw [ix_nI (by omega)]
    rw [epc] at hR
    have e8 : M 38 2 = onS (ctS (M 101) 2) := hL.2.2.2.2.2.2.2.2 2 (by decide)
    refine tX7_fine ⟨fun h1 => (absurd hc (fun hc => by simp (disch := omega) only [n1, n6, ne_eq, not_true_eq_false, Rg, tlt, tle, teq, tnI, ts1, tl0, tl1, tl2, tl3, tl4, tl5, tl6, tl7, tl8, tl9, tl10, tl11, tl12, tl13, tl14, tl15, tl16, tl24, tl30, tl33, tl60, tl84, tl96, tl99, tl100, tl200, tlm1, t44] at h1 hc <;> omega)), fun h2 => ⟨fun h3 => (absurd hc (fun hc => by simp (disch := omega) only [n1, n6, ne_eq, not_true_eq_false, Rg, tlt, tle, teq, tnI, ts1, tl0, tl1, tl2, tl3, tl4, tl5, tl6, tl7, tl8, tl9, tl10, tl11, tl12, tl13, tl14, tl15, tl16, tl24, tl30, tl33, tl60, tl84, tl96, tl99, tl100, tl200, tlm1, t44] at h2 h3 hc <;> omega)), fun h4 => ⟨(vpn (by omega) (by decide)), ?_⟩⟩⟩
    rw [xk, l4, em, e8]
    refine sJ6_bitCount (by omega) hm (kI_i (bX7_fine_33 ?_))
    rcases on_is hT 2 with ⟨h1, h2⟩ | ⟨t, h1, h2, h3, h4, h5, h6⟩
    · rw [h2]
      rw [if_neg (by rw [h1]; decide)] at hR
      exact ⟨fun _ => hR M (Ag.rf _ _), fun h => absurd rfl h⟩
    · rw [h3]
      rw [if_pos h5, h2, ix_nI (by omega)] at hR
      refine ⟨fun h => absurd h h4, fun _ => ⟨vpn (by omega) (by decide), ?_⟩⟩
      rw [xk, l2]
      exact sX2_valueOf (by omega) (by omega) (hT.2.2 t h1) (hRel.1.1.2 t h1) (fun M' hA => kI_i (bX7_fine_63 (hR M' (hA.sub (by decide)))))
  · simp only [if_neg hc] at hR
    exact tX7_fine ⟨fun h1 => (hR M (Ag.rf _ _)), fun h2 => ⟨fun h3 => (hR M (Ag.rf _ _)), fun h4 => ⟨((hc (by simp (disch := omega) only [n1, n6, ne_eq, not_true_eq_false, Rg, tlt, tle, teq, tnI, ts1, tl0, tl1, tl2, tl3, tl4, tl5, tl6, tl7, tl8, tl9, tl10, tl11, tl12, tl13, tl14, tl15, tl16, tl24, tl30, tl33, tl60, tl84, tl96, tl99, tl100, tl200, tlm1, t44] at h2 h4 ⊢ <;> omega)).elim), ((hc (by simp (disch := omega) only [n1, n6, ne_eq, not_true_eq_false, Rg, tlt, tle, teq, tnI, ts1, tl0, tl1, tl2, tl3, tl4, tl5, tl6, tl7, tl8, tl9, tl10, tl11, tl12, tl13, tl14, tl15, tl16, tl24, tl30, tl33, tl60, tl84, tl96, tl99, tl100, tl200, tlm1, t44] at h2 h4 ⊢ <;> omega)).elim)⟩⟩⟩
theorem M_fine {k : Int32} (hD : 16 ≤ D) (hIS : IS M) (hR : ∀ M', Ag scY M M' → M' 101 = M 101 → R (some (.int (anFine (M 101) k))) M') : Tr l G D mX8_fine [.ref (G.1 100), .int k] M R := by
  obtain ⟨d, rfl⟩ := dE (show 4 ≤ D by omega)
  have hI := hIS.1.1
  have m0 : M 101 0 = nI (np (M 101)) := hI.1.1
  have m3 : M 101 3 = nI (nw (M 101)) := hI.2.1.1
  have hp := hI.1.2
  have hw := hI.2.1.2
  have hW := hI.2.1
  unfold anFine at hR
  by_cases hc : Rg (np (M 101)) k
  · simp only [if_pos hc] at hR
    obtain ⟨k, hk, rfl⟩ := hc.ex
    have xk := ix_nI (show k < 2 ^ 31 by omega)
    try simp only [xk] at hR
    have hT := hI.2.2.1
    have h14 := hT.2.1
    have hsk := (hI.2.2.2.1 k hk).2.2.2
    obtain ⟨m, hm, em⟩ := small_bits (x := sk (M 101) k) (n := 14) (by decide) (fun j hj => by have := hsk j hj; omega)
    have epc : pcI (M 101 (13 + 4 * k)) = nI (pop 14 m) := by rw [show M 101 (13 + 4 * k) = nI m from em]; show nI (pop 14 (ix (nI m))) = _; rw [ix_nI (by omega)]
    rw [epc] at hR
    have eb : M 101 (ix (10 + 4 * nI k + 3)) = nI m := by rw [e3 (by omega)]; exact em
    refine tX8_fine ⟨fun h1 => ⟨fun h2 => ?_, fun h3 => (absurd hc (fun hc => by simp (disch := omega) only [m0, m3, ne_eq, not_true_eq_false, Rg, tlt, tle, teq, tnI, ts1, tl0, tl1, tl2, tl3, tl4, tl5, tl6, tl7, tl8, tl9, tl10, tl11, tl12, tl13, tl14, tl15, tl16, tl24, tl30, tl33, tl60, tl84, tl96, tl99, tl100, tl200, tlm1, t44] at h1 h3 hc <;> omega))⟩, fun h4 => (absurd hc (fun hc => by simp (disch := omega) only [m0, m3, ne_eq, not_true_eq_false, Rg, tlt, tle, teq, tnI, ts1, tl0, tl1, tl2, tl3, tl4, tl5, tl6, tl7, tl8, tl9, tl10, tl11, tl12, tl13, tl14, tl15, tl16, tl24, tl30, tl33, tl60, tl84, tl96, tl99, tl100, tl200, tlm1, t44] at h4 hc <;> omega))⟩
    refine sX8_counts (by omega) ⟨hT.1, hT.2.1⟩ (kI_i (bX8_fine_16 ⟨fun h => ⟨v3 (by omega), ?_⟩, fun h => ⟨v3 (by omega), ?_⟩⟩))
    · rw [eb]
      refine sX8_bits (by omega) hm (kI_i (bX8_fine_46 ⟨show vp_in (nI 115) 128 from vpn (by decide) (by decide), v1 (by omega), fun M2 e2' => ?_⟩))
      rcases on_is hT 2 with ⟨h1, h2⟩ | ⟨t, h1, h2, h3, h4, h5, h6⟩
      · exact absurd h (by rw [h1]; decide)
      rw [if_pos h5, h2, ix_nI (by omega)] at hR
      rw [h2]
      have hA2 : Ag [115, 116] M M2 := by rw [e2']; exact ((Ag.rf _ M).ua (by decide) _).ua (by decide) _
      have e101 := hA2 101 (by decide)
      have hwf := hT.2.2 t h1
      refine sX8_worked (by omega) (by omega) (by rw [e101]; exact hwf) (nmX (nI (pop 14 m)) (M 101 (11 + 4 * k)) 0) ?_ ?_
      · rw [e101, e2', e1 (by omega)]
        intro i hi hn
        rcases nm_2 hwf h6 hi hn with q | q
        · rw [q]
          simp (disch := decide) only [um_s, um_n, pk_un, show ix 115 = 115 from by decide, pk_us]
          rfl
        · rw [q]
          simp (disch := decide) only [um_s, um_n, pk_un, show ix 112 = 112 from by decide, pk_us]
          rfl
      · intro M' hA
        rw [e101]
        exact kI_i (bX8_fine_65 (hR M' ((hA2.tr (hA.sub (by decide))).sub (by decide)) ((hA 101 (by decide)).trans e101)))
    · rw [eb]
      refine sX8_bits (by omega) hm (kI_i (bX8_fine_30 ?_))
      rw [if_neg h] at hR
      exact hR M (Ag.rf _ _) rfl
  · simp only [if_neg hc] at hR
    exact tX8_fine ⟨fun h1 => ⟨fun h2 => ((hc (by simp (disch := omega) only [m0, m3, ne_eq, not_true_eq_false, Rg, tlt, tle, teq, tnI, ts1, tl0, tl1, tl2, tl3, tl4, tl5, tl6, tl7, tl8, tl9, tl10, tl11, tl12, tl13, tl14, tl15, tl16, tl24, tl30, tl33, tl60, tl84, tl96, tl99, tl100, tl200, tlm1, t44] at h1 h2 ⊢ <;> omega)).elim), fun h3 => ((hR M (Ag.rf _ _) rfl))⟩, fun h4 => ((hR M (Ag.rf _ _) rfl))⟩
end
