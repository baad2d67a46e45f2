-- public methods: reading a person, a way, the land
theorem sub_nI {a b : Nat} (h : b ≤ a) (ha : a < 2 ^ 30) : nI a - nI b = nI (a - b) := by
  rw [teq, tnI (by omega), pk_sub_toInt ha (by omega)]
  omega
theorem az (x : Int32) : x + 0 = x := Int32.add_zero x
theorem rd_mk {s : Nat → Int32} (hI : Inv s) {k : Nat} (hk : k < np s) (p : Int32) : rdS s k p &&& mk (nw s) = rdS s k p := by
  have h14 := hI.2.1.2
  have hb := (hI.2.2.2.1 k hk).2.2.2
  have he : ∀ i, bt (eIn s p) i = true → i < nw s := by
    intro i hi
    unfold eIn at hi
    rw [bt_bs _ _ _ (by omega), Bool.and_eq_true, decide_eq_true_eq] at hi
    exact hi.1
  have key : ∀ i, bt (rdS s k p) i = true → i < nw s := by
    intro i hi
    unfold rdS at hi
    split at hi
    · rw [b_and, Bool.and_eq_true] at hi; exact hb i hi.1
    · split at hi
      · rw [b_and, Bool.and_eq_true] at hi; exact hb i hi.1
      · split at hi
        · rw [b_and, Bool.and_eq_true] at hi; exact hb i hi.1
        · split at hi
          · rw [b_and, Bool.and_eq_true] at hi; exact he i hi.2
          · exact hb i hi
  apply b_ext
  intro i hi
  rw [b_and, bt_mk h14]
  by_cases e : bt (rdS s k p) i = true
  · rw [e, decide_eq_true (key i e)]; rfl
  · rw [Bool.not_eq_true] at e; rw [e]; rfl
theorem xor_small {x : Int32} {n w : Nat} (hw : w < n) (hn : n ≤ 14) (h : ∀ j, bt x j = true → j < n) : ∃ m, m < 2 ^ 14 ∧ x ^^^ ((1 : Int32) <<< (nI w &&& 31)) = nI m := by
  refine small_bits (n := 14) (by decide) (fun j hj => ?_)
  rw [b_xor] at hj
  by_cases e : bt x j = true
  · have := h j e; omega
  · rw [Bool.not_eq_true] at e
    rw [e, Bool.false_xor, bt_one (by omega), decide_eq_true_eq] at hj
    omega
section
variable {l : Launch} {G : GT} {D : Nat} {M : Mem} {R : Option Value → Mem → Prop} {b : Nat} {s : Nat → Int32}
def anAt (s : Nat → Int32) (p : Int32) : Int32 := if Rg 10 p then thS s p else (-1000000001)
theorem X_at {p : Int32} (hD : 8 ≤ D) (hRel : Rel M) (hR : ∀ M', Ag scX M M' → R (some (.int (anAt (M 101) p))) M') : Tr l G D mX7_at [.ref (G.1 0), .int p] M R := by
  obtain ⟨d, rfl⟩ := dE (show 4 ≤ D by omega)
  have hL := hRel.1.1.1
  have hI := hRel.2.1.1
  have n1 : M 30 1 = nI (np (M 101)) := hL.1.1.trans hI.1.1
  have n6 : M 30 6 = nI (nw (M 101)) := hL.1.2.1.trans hI.2.1.1
  have hp := hI.1.2
  have hw := hI.2.1.2
  have hW := hI.2.1
  unfold anAt at hR
  by_cases hc : Rg 10 p
  · simp only [if_pos hc] at hR
    refine tX7_at ⟨fun h1 => (absurd hc (fun hc => by simp (disch := omega) only [n1, n6, ne_eq, not_true_eq_false, Rg, tlt, tle, teq, tnI, ts1, tl0, tl1, tl2, tl3, tl4, tl5, tl6, tl7, tl8, tl9, tl10, tl11, tl12, tl13, tl14, tl15, tl16, tl24, tl30, tl33, tl60, tl84, tl96, tl99, tl100, tl200, tlm1] at h1 hc <;> omega)), fun h2 => ⟨fun h3 => (absurd hc (fun hc => by simp (disch := omega) only [n1, n6, ne_eq, not_true_eq_false, Rg, tlt, tle, teq, tnI, ts1, tl0, tl1, tl2, tl3, tl4, tl5, tl6, tl7, tl8, tl9, tl10, tl11, tl12, tl13, tl14, tl15, tl16, tl24, tl30, tl33, tl60, tl84, tl96, tl99, tl100, tl200, tlm1] at h2 h3 hc <;> omega)), fun h4 => ?_⟩⟩
    exact sX1_peopleIn ld30 (by omega) hI hL (kI_i (bX7_at_15 (hR M (Ag.rf _ _))))
  · simp only [if_neg hc] at hR
    exact tX7_at ⟨fun h1 => (hR M (Ag.rf _ _)), fun h2 => ⟨fun h3 => (hR M (Ag.rf _ _)), fun h4 => ((hc (by simp (disch := omega) only [n1, n6, ne_eq, not_true_eq_false, Rg, tlt, tle, teq, tnI, ts1, tl0, tl1, tl2, tl3, tl4, tl5, tl6, tl7, tl8, tl9, tl10, tl11, tl12, tl13, tl14, tl15, tl16, tl24, tl30, tl33, tl60, tl84, tl96, tl99, tl100, tl200, tlm1] at h2 h4 ⊢ <;> omega)).elim)⟩⟩
theorem M_at {p : Int32} (hD : 8 ≤ D) (hIS : IS M) (hR : ∀ M', Ag scY M M' → M' 101 = M 101 → R (some (.int (anAt (M 101) p))) M') : Tr l G D mX8_at [.ref (G.1 100), .int p] M R := by
  obtain ⟨d, rfl⟩ := dE (show 4 ≤ D by omega)
  have hI := hIS.1.1
  have m0 : M 101 0 = nI (np (M 101)) := hI.1.1
  have m3 : M 101 3 = nI (nw (M 101)) := hI.2.1.1
  have hp := hI.1.2
  have hw := hI.2.1.2
  have hW := hI.2.1
  unfold anAt at hR
  by_cases hc : Rg 10 p
  · simp only [if_pos hc] at hR
    refine tX8_at ⟨fun h1 => ⟨fun h2 => ?_, fun h3 => (absurd hc (fun hc => by simp (disch := omega) only [m0, m3, ne_eq, not_true_eq_false, Rg, tlt, tle, teq, tnI, ts1, tl0, tl1, tl2, tl3, tl4, tl5, tl6, tl7, tl8, tl9, tl10, tl11, tl12, tl13, tl14, tl15, tl16, tl24, tl30, tl33, tl60, tl84, tl96, tl99, tl100, tl200, tlm1] at h1 h3 hc <;> omega))⟩, fun h4 => (absurd hc (fun hc => by simp (disch := omega) only [m0, m3, ne_eq, not_true_eq_false, Rg, tlt, tle, teq, tnI, ts1, tl0, tl1, tl2, tl3, tl4, tl5, tl6, tl7, tl8, tl9, tl10, tl11, tl12, tl13, tl14, tl15, tl16, tl24, tl30, tl33, tl60, tl84, tl96, tl99, tl100, tl200, tlm1] at h4 hc <;> omega))⟩
    exact sX8_those (by omega) hI.1 (kI_i (bX8_at_12 (hR M (Ag.rf _ _) rfl)))
  · simp only [if_neg hc] at hR
    exact tX8_at ⟨fun h1 => ⟨fun h2 => ((hc (by simp (disch := omega) only [m0, m3, ne_eq, not_true_eq_false, Rg, tlt, tle, teq, tnI, ts1, tl0, tl1, tl2, tl3, tl4, tl5, tl6, tl7, tl8, tl9, tl10, tl11, tl12, tl13, tl14, tl15, tl16, tl24, tl30, tl33, tl60, tl84, tl96, tl99, tl100, tl200, tlm1] at h1 h2 ⊢ <;> omega)).elim), fun h3 => ((hR M (Ag.rf _ _) rfl))⟩, fun h4 => ((hR M (Ag.rf _ _) rfl))⟩
def anSeed (s : Nat → Int32) (v : Int32) : Int32 := s 9
def nxSeed (s : Nat → Int32) (v : Int32) : Nat → Int32 := upd s 9 v
theorem X_seed {v : Int32} (hD : 8 ≤ D) (hRel : Rel M) (hR : ∀ M', Ag (scX ++ ldC 30) M M' → LR M' 30 (nxSeed (M 101) v) → R (some (.int (anSeed (M 101) v))) M') : Tr l G D mX7_seed [.ref (G.1 0), .int v] M R := by
  obtain ⟨d, rfl⟩ := dE (show 4 ≤ D by omega)
  have hL := hRel.1.1.1
  have hI := hRel.2.1.1
  have n1 : M 30 1 = nI (np (M 101)) := hL.1.1.trans hI.1.1
  have n6 : M 30 6 = nI (nw (M 101)) := hL.1.2.1.trans hI.2.1.1
  have hp := hI.1.2
  have hw := hI.2.1.2
  have hW := hI.2.1
  unfold anSeed nxSeed at hR
  refine tX7_seed ?_
  rw [show M 30 17 = M 101 9 from hL.1.2.2.2.2.2.2.2.2.2.1]
  exact hR _ ((Ag.rf _ _).ua (by decide) _) (LR_17 hW hL v)
theorem M_seed {v : Int32} (hD : 8 ≤ D) (hIS : IS M) (hR : ∀ M', Ag scY M M' → M' 101 = nxSeed (M 101) v → R (some (.int (anSeed (M 101) v))) M') : Tr l G D mX8_seed [.ref (G.1 100), .int v] M R := by
  obtain ⟨d, rfl⟩ := dE (show 4 ≤ D by omega)
  have hI := hIS.1.1
  have m0 : M 101 0 = nI (np (M 101)) := hI.1.1
  have m3 : M 101 3 = nI (nw (M 101)) := hI.2.1.1
  have hp := hI.1.2
  have hw := hI.2.1.2
  have hW := hI.2.1
  unfold anSeed nxSeed at hR
  refine tX8_seed ?_
  exact hR _ ((Ag.rf _ _).ua (by decide) _) (um_s _ _ _ _)
def anCount (M : Mem) (q : Int32) : Int32 := if q = 0 then M 101 0 else if q = 1 then M 101 2 else if q = 2 then M 101 3 else if q = 3 then M 101 4 else if q = 4 then M 101 5 else if q = 5 then M 101 1 else if q = 6 then M 100 30 else if q = 7 then M 100 15 else if q = 8 then M 101 9 else (-1000000001)
theorem X_count {q : Int32} (hD : 8 ≤ D) (hRel : Rel M) (hR : ∀ M', Ag scX M M' → R (some (.int (anCount M q))) M') : Tr l G D mX7_count [.ref (G.1 0), .int q] M R := by
  obtain ⟨d, rfl⟩ := dE (show 4 ≤ D by omega)
  have hL := hRel.1.1.1
  have hI := hRel.2.1.1
  have n1 : M 30 1 = nI (np (M 101)) := hL.1.1.trans hI.1.1
  have n6 : M 30 6 = nI (nw (M 101)) := hL.1.2.1.trans hI.2.1.1
  have hp := hI.1.2
  have hw := hI.2.1.2
  have hW := hI.2.1
  unfold anCount at hR
  refine tX7_count ⟨fun h => ?_, fun h => ?_, fun h => ?_, fun h => ?_, fun h => ?_, fun h => ?_, fun h => ?_, fun h => ?_, fun h => ?_, fun g0 g1 g2 g3 g4 g5 g6 g7 g8 => ?_⟩
  · subst h
    rw [if_pos rfl] at hR
    rw [show M 30 1 = M 101 0 from hL.1.1]
    exact hR M (Ag.rf _ _)
  · subst h
    rw [if_neg (by decide), if_pos rfl] at hR
    rw [show M 30 16 = M 101 2 from hL.1.2.2.2.2.2.2.2.2.1]
    exact hR M (Ag.rf _ _)
  · subst h
    rw [if_neg (by decide), if_neg (by decide), if_pos rfl] at hR
    rw [show M 30 6 = M 101 3 from hL.1.2.1]
    exact hR M (Ag.rf _ _)
  · subst h
    rw [if_neg (by decide), if_neg (by decide), if_neg (by decide), if_pos rfl] at hR
    rw [show M 30 11 = M 101 4 from hL.1.2.2.2.1]
    exact hR M (Ag.rf _ _)
  · subst h
    rw [if_neg (by decide), if_neg (by decide), if_neg (by decide), if_neg (by decide), if_pos rfl] at hR
    rw [show M 30 12 = M 101 5 from hL.1.2.2.2.2.1]
    exact hR M (Ag.rf _ _)
  · subst h
    rw [if_neg (by decide), if_neg (by decide), if_neg (by decide), if_neg (by decide), if_neg (by decide), if_pos rfl] at hR
    rw [show M 30 18 = M 101 1 from hL.1.2.2.2.2.2.2.2.2.2.2]
    exact hR M (Ag.rf _ _)
  · subst h
    rw [if_neg (by decide), if_neg (by decide), if_neg (by decide), if_neg (by decide), if_neg (by decide), if_neg (by decide), if_pos rfl] at hR
    rw [show M 0 11 = M 100 30 from hRel.1.2.2.2.2.2.1]
    exact hR M (Ag.rf _ _)
  · subst h
    rw [if_neg (by decide), if_neg (by decide), if_neg (by decide), if_neg (by decide), if_neg (by decide), if_neg (by decide), if_neg (by decide), if_pos rfl] at hR
    rw [show M 21 1 = M 100 15 from hRel.1.2.2.1.1]
    exact hR M (Ag.rf _ _)
  · subst h
    rw [if_neg (by decide), if_neg (by decide), if_neg (by decide), if_neg (by decide), if_neg (by decide), if_neg (by decide), if_neg (by decide), if_neg (by decide), if_pos rfl] at hR
    rw [show M 30 17 = M 101 9 from hL.1.2.2.2.2.2.2.2.2.2.1]
    exact hR M (Ag.rf _ _)
  · rw [if_neg g0, if_neg g1, if_neg g2, if_neg g3, if_neg g4, if_neg g5, if_neg g6, if_neg g7, if_neg g8] at hR
    exact hR M (Ag.rf _ _)
theorem M_count {q : Int32} (hD : 8 ≤ D) (hIS : IS M) (hR : ∀ M', Ag scY M M' → M' 101 = M 101 → R (some (.int (anCount M q))) M') : Tr l G D mX8_count [.ref (G.1 100), .int q] M R := by
  obtain ⟨d, rfl⟩ := dE (show 4 ≤ D by omega)
  have hI := hIS.1.1
  have m0 : M 101 0 = nI (np (M 101)) := hI.1.1
  have m3 : M 101 3 = nI (nw (M 101)) := hI.2.1.1
  have hp := hI.1.2
  have hw := hI.2.1.2
  have hW := hI.2.1
  unfold anCount at hR
  refine tX8_count ⟨fun h => ?_, fun h => ?_, fun h => ?_, fun h => ?_, fun h => ?_, fun h => ?_, fun h => ?_, fun h => ?_, fun h => ?_, fun g0 g1 g2 g3 g4 g5 g6 g7 g8 => ?_⟩
  · subst h
    rw [if_pos rfl] at hR
    exact hR M (Ag.rf _ _) rfl
  · subst h
    rw [if_neg (by decide), if_pos rfl] at hR
    exact hR M (Ag.rf _ _) rfl
  · subst h
    rw [if_neg (by decide), if_neg (by decide), if_pos rfl] at hR
    exact hR M (Ag.rf _ _) rfl
  · subst h
    rw [if_neg (by decide), if_neg (by decide), if_neg (by decide), if_pos rfl] at hR
    exact hR M (Ag.rf _ _) rfl
  · subst h
    rw [if_neg (by decide), if_neg (by decide), if_neg (by decide), if_neg (by decide), if_pos rfl] at hR
    exact hR M (Ag.rf _ _) rfl
  · subst h
    rw [if_neg (by decide), if_neg (by decide), if_neg (by decide), if_neg (by decide), if_neg (by decide), if_pos rfl] at hR
    exact hR M (Ag.rf _ _) rfl
  · subst h
    rw [if_neg (by decide), if_neg (by decide), if_neg (by decide), if_neg (by decide), if_neg (by decide), if_neg (by decide), if_pos rfl] at hR
    exact hR M (Ag.rf _ _) rfl
  · subst h
    rw [if_neg (by decide), if_neg (by decide), if_neg (by decide), if_neg (by decide), if_neg (by decide), if_neg (by decide), if_neg (by decide), if_pos rfl] at hR
    exact hR M (Ag.rf _ _) rfl
  · subst h
    rw [if_neg (by decide), if_neg (by decide), if_neg (by decide), if_neg (by decide), if_neg (by decide), if_neg (by decide), if_neg (by decide), if_neg (by decide), if_pos rfl] at hR
    exact hR M (Ag.rf _ _) rfl
  · rw [if_neg g0, if_neg g1, if_neg g2, if_neg g3, if_neg g4, if_neg g5, if_neg g6, if_neg g7, if_neg g8] at hR
    exact hR M (Ag.rf _ _) rfl
def anRule (s : Nat → Int32) (i v : Int32) : Int32 := if (i = 0 ∨ i = 1) ∧ 0 ≤ v.toInt ∧ v.toInt ≤ 100 then s (4 + ix i) else (-1000000001)
def nxRule (s : Nat → Int32) (i v : Int32) : Nat → Int32 := if (i = 0 ∨ i = 1) ∧ 0 ≤ v.toInt ∧ v.toInt ≤ 100 then upd s (4 + ix i) v else s
theorem X_rule {i v : Int32} (hD : 8 ≤ D) (hRel : Rel M) (hR : ∀ M', Ag (scX ++ ldC 30) M M' → LR M' 30 (nxRule (M 101) i v) → R (some (.int (anRule (M 101) i v))) M') : Tr l G D mX7_rule [.ref (G.1 0), .int i, .int v] M R := by
  obtain ⟨d, rfl⟩ := dE (show 4 ≤ D by omega)
  have hL := hRel.1.1.1
  have hI := hRel.2.1.1
  have n1 : M 30 1 = nI (np (M 101)) := hL.1.1.trans hI.1.1
  have n6 : M 30 6 = nI (nw (M 101)) := hL.1.2.1.trans hI.2.1.1
  have hp := hI.1.2
  have hw := hI.2.1.2
  have hW := hI.2.1
  unfold anRule nxRule at hR
  by_cases hc : (i = 0 ∨ i = 1) ∧ 0 ≤ v.toInt ∧ v.toInt ≤ 100
  · simp only [if_pos hc] at hR
    rcases hc.1 with rfl | rfl
    · refine tX7_rule ⟨fun h1 => (absurd hc (fun hc => by simp (disch := omega) only [n1, n6, ne_eq, not_true_eq_false, Rg, tlt, tle, teq, tnI, ts1, tl0, tl1, tl2, tl3, tl4, tl5, tl6, tl7, tl8, tl9, tl10, tl11, tl12, tl13, tl14, tl15, tl16, tl24, tl30, tl33, tl60, tl84, tl96, tl99, tl100, tl200, tlm1] at h1 hc <;> omega)), fun h2 => ⟨fun h3 => ⟨fun h4 => ?_, fun h5 => ⟨fun h6 => ?_, fun h7 => (absurd hc (fun hc => by simp (disch := omega) only [n1, n6, ne_eq, not_true_eq_false, Rg, tlt, tle, teq, tnI, ts1, tl0, tl1, tl2, tl3, tl4, tl5, tl6, tl7, tl8, tl9, tl10, tl11, tl12, tl13, tl14, tl15, tl16, tl24, tl30, tl33, tl60, tl84, tl96, tl99, tl100, tl200, tlm1] at h2 h3 h5 h7 hc <;> omega))⟩⟩, fun h8 => (absurd hc (fun hc => by simp (disch := omega) only [n1, n6, ne_eq, not_true_eq_false, Rg, tlt, tle, teq, tnI, ts1, tl0, tl1, tl2, tl3, tl4, tl5, tl6, tl7, tl8, tl9, tl10, tl11, tl12, tl13, tl14, tl15, tl16, tl24, tl30, tl33, tl60, tl84, tl96, tl99, tl100, tl200, tlm1] at h2 h8 hc <;> omega))⟩⟩
      all_goals first | exact absurd (by assumption : (0 : Int32) = 1) (by decide) | exact absurd rfl (by assumption : ¬ (0 : Int32) = 0) | skip
      rw [show M 30 11 = M 101 4 from hL.1.2.2.2.1]
      exact hR _ ((Ag.rf _ _).ua (by decide) _) (LR_11 hW hL v)
    · refine tX7_rule ⟨fun h1 => (absurd hc (fun hc => by simp (disch := omega) only [n1, n6, ne_eq, not_true_eq_false, Rg, tlt, tle, teq, tnI, ts1, tl0, tl1, tl2, tl3, tl4, tl5, tl6, tl7, tl8, tl9, tl10, tl11, tl12, tl13, tl14, tl15, tl16, tl24, tl30, tl33, tl60, tl84, tl96, tl99, tl100, tl200, tlm1] at h1 hc <;> omega)), fun h2 => ⟨fun h3 => ⟨fun h4 => ?_, fun h5 => ⟨fun h6 => ?_, fun h7 => (absurd hc (fun hc => by simp (disch := omega) only [n1, n6, ne_eq, not_true_eq_false, Rg, tlt, tle, teq, tnI, ts1, tl0, tl1, tl2, tl3, tl4, tl5, tl6, tl7, tl8, tl9, tl10, tl11, tl12, tl13, tl14, tl15, tl16, tl24, tl30, tl33, tl60, tl84, tl96, tl99, tl100, tl200, tlm1] at h2 h3 h5 h7 hc <;> omega))⟩⟩, fun h8 => (absurd hc (fun hc => by simp (disch := omega) only [n1, n6, ne_eq, not_true_eq_false, Rg, tlt, tle, teq, tnI, ts1, tl0, tl1, tl2, tl3, tl4, tl5, tl6, tl7, tl8, tl9, tl10, tl11, tl12, tl13, tl14, tl15, tl16, tl24, tl30, tl33, tl60, tl84, tl96, tl99, tl100, tl200, tlm1] at h2 h8 hc <;> omega))⟩⟩
      all_goals first | exact absurd (by assumption : (1 : Int32) = 0) (by decide) | exact absurd rfl (by assumption : ¬ (1 : Int32) = 1) | skip
      rw [show M 30 12 = M 101 5 from hL.1.2.2.2.2.1]
      exact hR _ ((Ag.rf _ _).ua (by decide) _) (LR_12 hW hL v)
  · simp only [if_neg hc] at hR
    exact tX7_rule ⟨fun h1 => (hR M (Ag.rf _ _) hL), fun h2 => ⟨fun h3 => ⟨fun h4 => ((hc (by simp (disch := omega) only [n1, n6, ne_eq, not_true_eq_false, Rg, tlt, tle, teq, tnI, ts1, tl0, tl1, tl2, tl3, tl4, tl5, tl6, tl7, tl8, tl9, tl10, tl11, tl12, tl13, tl14, tl15, tl16, tl24, tl30, tl33, tl60, tl84, tl96, tl99, tl100, tl200, tlm1] at h2 h3 h4 ⊢ <;> omega)).elim), fun h5 => ⟨fun h6 => ((hc (by simp (disch := omega) only [n1, n6, ne_eq, not_true_eq_false, Rg, tlt, tle, teq, tnI, ts1, tl0, tl1, tl2, tl3, tl4, tl5, tl6, tl7, tl8, tl9, tl10, tl11, tl12, tl13, tl14, tl15, tl16, tl24, tl30, tl33, tl60, tl84, tl96, tl99, tl100, tl200, tlm1] at h2 h3 h5 h6 ⊢ <;> omega)).elim), fun h7 => (hR M (Ag.rf _ _) hL)⟩⟩, fun h8 => (hR M (Ag.rf _ _) hL)⟩⟩
theorem M_rule {i v : Int32} (hD : 8 ≤ D) (hIS : IS M) (hR : ∀ M', Ag scY M M' → M' 101 = nxRule (M 101) i v → R (some (.int (anRule (M 101) i v))) M') : Tr l G D mX8_rule [.ref (G.1 100), .int i, .int v] M R := by
  obtain ⟨d, rfl⟩ := dE (show 4 ≤ D by omega)
  have hI := hIS.1.1
  have m0 : M 101 0 = nI (np (M 101)) := hI.1.1
  have m3 : M 101 3 = nI (nw (M 101)) := hI.2.1.1
  have hp := hI.1.2
  have hw := hI.2.1.2
  have hW := hI.2.1
  unfold anRule nxRule at hR
  by_cases hc : (i = 0 ∨ i = 1) ∧ 0 ≤ v.toInt ∧ v.toInt ≤ 100
  · simp only [if_pos hc] at hR
    rcases hc.1 with rfl | rfl
    · rw [show 4 + ix (0 : Int32) = 4 from rfl] at hR
      refine tX8_rule ⟨fun h1 => ⟨fun h2 => ⟨fun h3 => ⟨fun h4 => ⟨?_, ?_, ?_⟩, fun h5 => (absurd hc (fun hc => by simp (disch := omega) only [m0, m3, ne_eq, not_true_eq_false, Rg, tlt, tle, teq, tnI, ts1, tl0, tl1, tl2, tl3, tl4, tl5, tl6, tl7, tl8, tl9, tl10, tl11, tl12, tl13, tl14, tl15, tl16, tl24, tl30, tl33, tl60, tl84, tl96, tl99, tl100, tl200, tlm1] at h1 h2 h3 h5 hc <;> omega))⟩, fun h6 => (absurd hc (fun hc => by simp (disch := omega) only [m0, m3, ne_eq, not_true_eq_false, Rg, tlt, tle, teq, tnI, ts1, tl0, tl1, tl2, tl3, tl4, tl5, tl6, tl7, tl8, tl9, tl10, tl11, tl12, tl13, tl14, tl15, tl16, tl24, tl30, tl33, tl60, tl84, tl96, tl99, tl100, tl200, tlm1] at h1 h2 h6 hc <;> omega))⟩, fun h7 => (absurd hc (fun hc => by simp (disch := omega) only [m0, m3, ne_eq, not_true_eq_false, Rg, tlt, tle, teq, tnI, ts1, tl0, tl1, tl2, tl3, tl4, tl5, tl6, tl7, tl8, tl9, tl10, tl11, tl12, tl13, tl14, tl15, tl16, tl24, tl30, tl33, tl60, tl84, tl96, tl99, tl100, tl200, tlm1] at h1 h7 hc <;> omega))⟩, fun h8 => (absurd hc (fun hc => by simp (disch := omega) only [m0, m3, ne_eq, not_true_eq_false, Rg, tlt, tle, teq, tnI, ts1, tl0, tl1, tl2, tl3, tl4, tl5, tl6, tl7, tl8, tl9, tl10, tl11, tl12, tl13, tl14, tl15, tl16, tl24, tl30, tl33, tl60, tl84, tl96, tl99, tl100, tl200, tlm1] at h8 hc <;> omega))⟩
      all_goals rw [show (4 : Int32) + 0 = nI 4 from by decide]
      · exact vpn (by decide) (by decide)
      · exact vpn (by decide) (by decide)
      · exact hR _ ((Ag.rf _ _).ua (by decide) _) (um_s _ _ _ _)
    · rw [show 4 + ix (1 : Int32) = 5 from rfl] at hR
      refine tX8_rule ⟨fun h1 => ⟨fun h2 => ⟨fun h3 => ⟨fun h4 => ⟨?_, ?_, ?_⟩, fun h5 => (absurd hc (fun hc => by simp (disch := omega) only [m0, m3, ne_eq, not_true_eq_false, Rg, tlt, tle, teq, tnI, ts1, tl0, tl1, tl2, tl3, tl4, tl5, tl6, tl7, tl8, tl9, tl10, tl11, tl12, tl13, tl14, tl15, tl16, tl24, tl30, tl33, tl60, tl84, tl96, tl99, tl100, tl200, tlm1] at h1 h2 h3 h5 hc <;> omega))⟩, fun h6 => (absurd hc (fun hc => by simp (disch := omega) only [m0, m3, ne_eq, not_true_eq_false, Rg, tlt, tle, teq, tnI, ts1, tl0, tl1, tl2, tl3, tl4, tl5, tl6, tl7, tl8, tl9, tl10, tl11, tl12, tl13, tl14, tl15, tl16, tl24, tl30, tl33, tl60, tl84, tl96, tl99, tl100, tl200, tlm1] at h1 h2 h6 hc <;> omega))⟩, fun h7 => (absurd hc (fun hc => by simp (disch := omega) only [m0, m3, ne_eq, not_true_eq_false, Rg, tlt, tle, teq, tnI, ts1, tl0, tl1, tl2, tl3, tl4, tl5, tl6, tl7, tl8, tl9, tl10, tl11, tl12, tl13, tl14, tl15, tl16, tl24, tl30, tl33, tl60, tl84, tl96, tl99, tl100, tl200, tlm1] at h1 h7 hc <;> omega))⟩, fun h8 => (absurd hc (fun hc => by simp (disch := omega) only [m0, m3, ne_eq, not_true_eq_false, Rg, tlt, tle, teq, tnI, ts1, tl0, tl1, tl2, tl3, tl4, tl5, tl6, tl7, tl8, tl9, tl10, tl11, tl12, tl13, tl14, tl15, tl16, tl24, tl30, tl33, tl60, tl84, tl96, tl99, tl100, tl200, tlm1] at h8 hc <;> omega))⟩
      all_goals rw [show (4 : Int32) + 1 = nI 5 from by decide]
      · exact vpn (by decide) (by decide)
      · exact vpn (by decide) (by decide)
      · exact hR _ ((Ag.rf _ _).ua (by decide) _) (um_s _ _ _ _)
  · simp only [if_neg hc] at hR
    exact tX8_rule ⟨fun h1 => ⟨fun h2 => ⟨fun h3 => ⟨fun h4 => ⟨((hc (by simp (disch := omega) only [m0, m3, ne_eq, not_true_eq_false, Rg, tlt, tle, teq, tnI, ts1, tl0, tl1, tl2, tl3, tl4, tl5, tl6, tl7, tl8, tl9, tl10, tl11, tl12, tl13, tl14, tl15, tl16, tl24, tl30, tl33, tl60, tl84, tl96, tl99, tl100, tl200, tlm1] at h1 h2 h3 h4 ⊢ <;> omega)).elim), ((hc (by simp (disch := omega) only [m0, m3, ne_eq, not_true_eq_false, Rg, tlt, tle, teq, tnI, ts1, tl0, tl1, tl2, tl3, tl4, tl5, tl6, tl7, tl8, tl9, tl10, tl11, tl12, tl13, tl14, tl15, tl16, tl24, tl30, tl33, tl60, tl84, tl96, tl99, tl100, tl200, tlm1] at h1 h2 h3 h4 ⊢ <;> omega)).elim), ((hc (by simp (disch := omega) only [m0, m3, ne_eq, not_true_eq_false, Rg, tlt, tle, teq, tnI, ts1, tl0, tl1, tl2, tl3, tl4, tl5, tl6, tl7, tl8, tl9, tl10, tl11, tl12, tl13, tl14, tl15, tl16, tl24, tl30, tl33, tl60, tl84, tl96, tl99, tl100, tl200, tlm1] at h1 h2 h3 h4 ⊢ <;> omega)).elim)⟩, fun h5 => ((hR M (Ag.rf _ _) rfl))⟩, fun h6 => ((hR M (Ag.rf _ _) rfl))⟩, fun h7 => ((hR M (Ag.rf _ _) rfl))⟩, fun h8 => ((hR M (Ag.rf _ _) rfl))⟩
def anAs (s : Nat → Int32) (k c : Int32) : Int32 := if Rg (np s) k ∧ Rg 6 c then (if ix (s (10 + 4 * ix k)) = ix c ∨ ix c = 0 ∨ (ix c = 1 ∧ ix (s (10 + 4 * ix k)) = 3) ∨ (ix c = 2 ∧ ix (s (10 + 4 * ix k)) = 4) then s (11 + 4 * ix k) else (-1000000012)) else (-1000000001)
theorem X_as {k c : Int32} (hD : 8 ≤ D) (hRel : Rel M) (hR : ∀ M', Ag scX M M' → R (some (.int (anAs (M 101) k c))) M') : Tr l G D mX7_as [.ref (G.1 0), .int k, .int c] M R := by
  obtain ⟨d, rfl⟩ := dE (show 4 ≤ D by omega)
  have hL := hRel.1.1.1
  have hI := hRel.2.1.1
  have n1 : M 30 1 = nI (np (M 101)) := hL.1.1.trans hI.1.1
  have n6 : M 30 6 = nI (nw (M 101)) := hL.1.2.1.trans hI.2.1.1
  have hp := hI.1.2
  have hw := hI.2.1.2
  have hW := hI.2.1
  unfold anAs at hR
  by_cases hc : Rg (np (M 101)) k ∧ Rg 6 c
  · simp only [if_pos hc] at hR
    obtain ⟨k, hk, rfl⟩ := hc.1.ex
    have xk := ix_nI (show k < 2 ^ 31 by omega)
    obtain ⟨c, hhc, rfl⟩ := hc.2.ex
    have xc := ix_nI (show c < 2 ^ 31 by omega)
    try simp only [xk, xc] at hR
    have l1 : M 31 k = kd (M 101) k := hL.2.1 k (by omega)
    have l2 : M 32 k = pl (M 101) k := hL.2.2.1 k (by omega)
    have l3 : M 33 k = ag (M 101) k := hL.2.2.2.1 k (by omega)
    have l4 : M 34 k = sk (M 101) k := hL.2.2.2.2.1 k (by omega)
    
    obtain ⟨⟨a, ha, ea⟩, _⟩ := hI.2.2.2.1 k hk
    rw [show M 101 (10 + 4 * k) = nI a from ea, ix_nI (show a < 2 ^ 31 by omega)] at hR
    refine tX7_as ⟨fun h1 => (absurd hc (fun hc => by simp (disch := omega) only [n1, n6, ne_eq, not_true_eq_false, Rg, tlt, tle, teq, tnI, ts1, tl0, tl1, tl2, tl3, tl4, tl5, tl6, tl7, tl8, tl9, tl10, tl11, tl12, tl13, tl14, tl15, tl16, tl24, tl30, tl33, tl60, tl84, tl96, tl99, tl100, tl200, tlm1] at h1 hc <;> omega)), fun h2 => ⟨fun h3 => (absurd hc (fun hc => by simp (disch := omega) only [n1, n6, ne_eq, not_true_eq_false, Rg, tlt, tle, teq, tnI, ts1, tl0, tl1, tl2, tl3, tl4, tl5, tl6, tl7, tl8, tl9, tl10, tl11, tl12, tl13, tl14, tl15, tl16, tl24, tl30, tl33, tl60, tl84, tl96, tl99, tl100, tl200, tlm1] at h2 h3 hc <;> omega)), fun h4 => ⟨fun h5 => (absurd hc (fun hc => by simp (disch := omega) only [n1, n6, ne_eq, not_true_eq_false, Rg, tlt, tle, teq, tnI, ts1, tl0, tl1, tl2, tl3, tl4, tl5, tl6, tl7, tl8, tl9, tl10, tl11, tl12, tl13, tl14, tl15, tl16, tl24, tl30, tl33, tl60, tl84, tl96, tl99, tl100, tl200, tlm1] at h2 h4 h5 hc <;> omega)), fun h6 => ⟨fun h7 => (absurd hc (fun hc => by simp (disch := omega) only [n1, n6, ne_eq, not_true_eq_false, Rg, tlt, tle, teq, tnI, ts1, tl0, tl1, tl2, tl3, tl4, tl5, tl6, tl7, tl8, tl9, tl10, tl11, tl12, tl13, tl14, tl15, tl16, tl24, tl30, tl33, tl60, tl84, tl96, tl99, tl100, tl200, tlm1] at h2 h4 h6 h7 hc <;> omega)), fun h8 => ⟨?_, ?_⟩⟩⟩⟩⟩
    · exact vpn (by omega) (by decide)
    · rw [xk, l1, ea]
      refine sX0_isUnder (by omega) ha hhc (kI_i (bX7_as_31 ⟨fun h => ?_, fun h => ⟨vpn (by omega) (by decide), ?_⟩⟩))
      · split at h
        · exact absurd h (by decide)
        · next hq => rw [if_neg hq] at hR; exact hR M (Ag.rf _ _)
      · split at h
        · next hq => rw [if_pos hq] at hR; rw [xk, l2]; exact hR M (Ag.rf _ _)
        · exact absurd rfl h
  · simp only [if_neg hc] at hR
    exact tX7_as ⟨fun h1 => (hR M (Ag.rf _ _)), fun h2 => ⟨fun h3 => (hR M (Ag.rf _ _)), fun h4 => ⟨fun h5 => (hR M (Ag.rf _ _)), fun h6 => ⟨fun h7 => (hR M (Ag.rf _ _)), fun h8 => ⟨((hc (by simp (disch := omega) only [n1, n6, ne_eq, not_true_eq_false, Rg, tlt, tle, teq, tnI, ts1, tl0, tl1, tl2, tl3, tl4, tl5, tl6, tl7, tl8, tl9, tl10, tl11, tl12, tl13, tl14, tl15, tl16, tl24, tl30, tl33, tl60, tl84, tl96, tl99, tl100, tl200, tlm1] at h2 h4 h6 h8 ⊢ <;> omega)).elim), ((hc (by simp (disch := omega) only [n1, n6, ne_eq, not_true_eq_false, Rg, tlt, tle, teq, tnI, ts1, tl0, tl1, tl2, tl3, tl4, tl5, tl6, tl7, tl8, tl9, tl10, tl11, tl12, tl13, tl14, tl15, tl16, tl24, tl30, tl33, tl60, tl84, tl96, tl99, tl100, tl200, tlm1] at h2 h4 h6 h8 ⊢ <;> omega)).elim)⟩⟩⟩⟩⟩
theorem M_as {k c : Int32} (hD : 8 ≤ D) (hIS : IS M) (hR : ∀ M', Ag scY M M' → M' 101 = M 101 → R (some (.int (anAs (M 101) k c))) M') : Tr l G D mX8_as [.ref (G.1 100), .int k, .int c] M R := by
  obtain ⟨d, rfl⟩ := dE (show 4 ≤ D by omega)
  have hI := hIS.1.1
  have m0 : M 101 0 = nI (np (M 101)) := hI.1.1
  have m3 : M 101 3 = nI (nw (M 101)) := hI.2.1.1
  have hp := hI.1.2
  have hw := hI.2.1.2
  have hW := hI.2.1
  unfold anAs at hR
  by_cases hc : Rg (np (M 101)) k ∧ Rg 6 c
  · simp only [if_pos hc] at hR
    obtain ⟨k, hk, rfl⟩ := hc.1.ex
    have xk := ix_nI (show k < 2 ^ 31 by omega)
    obtain ⟨c, hhc, rfl⟩ := hc.2.ex
    have xc := ix_nI (show c < 2 ^ 31 by omega)
    try simp only [xk, xc] at hR
    obtain ⟨⟨a, ha, ea⟩, _⟩ := hI.2.2.2.1 k hk
    rw [show M 101 (10 + 4 * k) = nI a from ea, ix_nI (show a < 2 ^ 31 by omega)] at hR
    have ec : M 101 (ix (10 + 4 * nI k + 0)) = nI a := by rw [e0 (by omega)]; exact ea
    have e5 : M 101 (ix (10 + 4 * nI k + 1)) = M 101 (11 + 4 * k) := by rw [e1 (by omega)]
    have t0 : nI c = 0 ↔ c = 0 := nI_eq (b := 0) (by omega) (by decide)
    have t1 : nI c = 1 ↔ c = 1 := nI_eq (b := 1) (by omega) (by decide)
    have t2 : nI c = 2 ↔ c = 2 := nI_eq (b := 2) (by omega) (by decide)
    have t3 : nI a = 3 ↔ a = 3 := nI_eq (b := 3) (by omega) (by decide)
    have t4 : nI a = 4 ↔ a = 4 := nI_eq (b := 4) (by omega) (by decide)
    have t5 : nI a = nI c ↔ a = c := nI_eq (by omega) (by omega)
    have yes : (a = c ∨ c = 0 ∨ (c = 1 ∧ a = 3) ∨ (c = 2 ∧ a = 4)) → R (some (.int (M 101 (11 + 4 * k)))) M := fun q => by rw [if_pos q] at hR; exact hR M (Ag.rf _ _) rfl
    have no : ¬ (a = c ∨ c = 0 ∨ (c = 1 ∧ a = 3) ∨ (c = 2 ∧ a = 4)) → R (some (.int (-1000000012))) M := fun q => by rw [if_neg q] at hR; exact hR M (Ag.rf _ _) rfl
    clear hR
    refine tX8_as ⟨fun h1 => ⟨fun h2 => ⟨fun h3 => ⟨fun h4 => ⟨(v0 (by omega)), fun h5 => ⟨(v1 (by omega)), ?_⟩, fun h6 => ⟨fun h7 => ⟨(v1 (by omega)), ?_⟩, fun h8 => ⟨fun h9 => ⟨fun h10 => ⟨(v1 (by omega)), ?_⟩, fun h11 => ⟨fun h12 => ⟨fun h13 => ⟨(v1 (by omega)), ?_⟩, fun h14 => ?_⟩, fun h15 => ?_⟩⟩, fun h16 => ⟨fun h17 => ⟨fun h18 => ⟨(v1 (by omega)), ?_⟩, fun h19 => ?_⟩, fun h20 => ?_⟩⟩⟩⟩, fun h21 => (absurd hc (fun hc => by simp (disch := omega) only [m0, m3, ne_eq, not_true_eq_false, Rg, tlt, tle, teq, tnI, ts1, tl0, tl1, tl2, tl3, tl4, tl5, tl6, tl7, tl8, tl9, tl10, tl11, tl12, tl13, tl14, tl15, tl16, tl24, tl30, tl33, tl60, tl84, tl96, tl99, tl100, tl200, tlm1] at h1 h2 h3 h21 hc <;> omega))⟩, fun h22 => (absurd hc (fun hc => by simp (disch := omega) only [m0, m3, ne_eq, not_true_eq_false, Rg, tlt, tle, teq, tnI, ts1, tl0, tl1, tl2, tl3, tl4, tl5, tl6, tl7, tl8, tl9, tl10, tl11, tl12, tl13, tl14, tl15, tl16, tl24, tl30, tl33, tl60, tl84, tl96, tl99, tl100, tl200, tlm1] at h1 h2 h22 hc <;> omega))⟩, fun h23 => (absurd hc (fun hc => by simp (disch := omega) only [m0, m3, ne_eq, not_true_eq_false, Rg, tlt, tle, teq, tnI, ts1, tl0, tl1, tl2, tl3, tl4, tl5, tl6, tl7, tl8, tl9, tl10, tl11, tl12, tl13, tl14, tl15, tl16, tl24, tl30, tl33, tl60, tl84, tl96, tl99, tl100, tl200, tlm1] at h1 h23 hc <;> omega))⟩, fun h24 => (absurd hc (fun hc => by simp (disch := omega) only [m0, m3, ne_eq, not_true_eq_false, Rg, tlt, tle, teq, tnI, ts1, tl0, tl1, tl2, tl3, tl4, tl5, tl6, tl7, tl8, tl9, tl10, tl11, tl12, tl13, tl14, tl15, tl16, tl24, tl30, tl33, tl60, tl84, tl96, tl99, tl100, tl200, tlm1] at h24 hc <;> omega))⟩
    all_goals simp only [ec, t0, t1, t2, t3, t4, t5] at *
    all_goals try rw [e5]
    all_goals first | (refine yes ?_; omega) | (refine no ?_; omega)
  · simp only [if_neg hc] at hR
    exact tX8_as ⟨fun h1 => ⟨fun h2 => ⟨fun h3 => ⟨fun h4 => ⟨((hc (by simp (disch := omega) only [m0, m3, ne_eq, not_true_eq_false, Rg, tlt, tle, teq, tnI, ts1, tl0, tl1, tl2, tl3, tl4, tl5, tl6, tl7, tl8, tl9, tl10, tl11, tl12, tl13, tl14, tl15, tl16, tl24, tl30, tl33, tl60, tl84, tl96, tl99, tl100, tl200, tlm1] at h1 h2 h3 h4 ⊢ <;> omega)).elim), fun h5 => ⟨((hc (by simp (disch := omega) only [m0, m3, ne_eq, not_true_eq_false, Rg, tlt, tle, teq, tnI, ts1, tl0, tl1, tl2, tl3, tl4, tl5, tl6, tl7, tl8, tl9, tl10, tl11, tl12, tl13, tl14, tl15, tl16, tl24, tl30, tl33, tl60, tl84, tl96, tl99, tl100, tl200, tlm1] at h1 h2 h3 h4 h5 ⊢ <;> omega)).elim), ((hc (by simp (disch := omega) only [m0, m3, ne_eq, not_true_eq_false, Rg, tlt, tle, teq, tnI, ts1, tl0, tl1, tl2, tl3, tl4, tl5, tl6, tl7, tl8, tl9, tl10, tl11, tl12, tl13, tl14, tl15, tl16, tl24, tl30, tl33, tl60, tl84, tl96, tl99, tl100, tl200, tlm1] at h1 h2 h3 h4 h5 ⊢ <;> omega)).elim)⟩, fun h6 => ⟨fun h7 => ⟨((hc (by simp (disch := omega) only [m0, m3, ne_eq, not_true_eq_false, Rg, tlt, tle, teq, tnI, ts1, tl0, tl1, tl2, tl3, tl4, tl5, tl6, tl7, tl8, tl9, tl10, tl11, tl12, tl13, tl14, tl15, tl16, tl24, tl30, tl33, tl60, tl84, tl96, tl99, tl100, tl200, tlm1] at h1 h2 h3 h4 h6 h7 ⊢ <;> omega)).elim), ((hc (by simp (disch := omega) only [m0, m3, ne_eq, not_true_eq_false, Rg, tlt, tle, teq, tnI, ts1, tl0, tl1, tl2, tl3, tl4, tl5, tl6, tl7, tl8, tl9, tl10, tl11, tl12, tl13, tl14, tl15, tl16, tl24, tl30, tl33, tl60, tl84, tl96, tl99, tl100, tl200, tlm1] at h1 h2 h3 h4 h6 h7 ⊢ <;> omega)).elim)⟩, fun h8 => ⟨fun h9 => ⟨fun h10 => ⟨((hc (by simp (disch := omega) only [m0, m3, ne_eq, not_true_eq_false, Rg, tlt, tle, teq, tnI, ts1, tl0, tl1, tl2, tl3, tl4, tl5, tl6, tl7, tl8, tl9, tl10, tl11, tl12, tl13, tl14, tl15, tl16, tl24, tl30, tl33, tl60, tl84, tl96, tl99, tl100, tl200, tlm1] at h1 h2 h3 h4 h6 h8 h9 h10 ⊢ <;> omega)).elim), ((hc (by simp (disch := omega) only [m0, m3, ne_eq, not_true_eq_false, Rg, tlt, tle, teq, tnI, ts1, tl0, tl1, tl2, tl3, tl4, tl5, tl6, tl7, tl8, tl9, tl10, tl11, tl12, tl13, tl14, tl15, tl16, tl24, tl30, tl33, tl60, tl84, tl96, tl99, tl100, tl200, tlm1] at h1 h2 h3 h4 h6 h8 h9 h10 ⊢ <;> omega)).elim)⟩, fun h11 => ⟨fun h12 => ⟨fun h13 => ⟨((hc (by simp (disch := omega) only [m0, m3, ne_eq, not_true_eq_false, Rg, tlt, tle, teq, tnI, ts1, tl0, tl1, tl2, tl3, tl4, tl5, tl6, tl7, tl8, tl9, tl10, tl11, tl12, tl13, tl14, tl15, tl16, tl24, tl30, tl33, tl60, tl84, tl96, tl99, tl100, tl200, tlm1] at h1 h2 h3 h4 h6 h8 h9 h11 h12 h13 ⊢ <;> omega)).elim), ((hc (by simp (disch := omega) only [m0, m3, ne_eq, not_true_eq_false, Rg, tlt, tle, teq, tnI, ts1, tl0, tl1, tl2, tl3, tl4, tl5, tl6, tl7, tl8, tl9, tl10, tl11, tl12, tl13, tl14, tl15, tl16, tl24, tl30, tl33, tl60, tl84, tl96, tl99, tl100, tl200, tlm1] at h1 h2 h3 h4 h6 h8 h9 h11 h12 h13 ⊢ <;> omega)).elim)⟩, fun h14 => ((hc (by simp (disch := omega) only [m0, m3, ne_eq, not_true_eq_false, Rg, tlt, tle, teq, tnI, ts1, tl0, tl1, tl2, tl3, tl4, tl5, tl6, tl7, tl8, tl9, tl10, tl11, tl12, tl13, tl14, tl15, tl16, tl24, tl30, tl33, tl60, tl84, tl96, tl99, tl100, tl200, tlm1] at h1 h2 h3 h4 h6 h8 h9 h11 h12 h14 ⊢ <;> omega)).elim)⟩, fun h15 => ((hc (by simp (disch := omega) only [m0, m3, ne_eq, not_true_eq_false, Rg, tlt, tle, teq, tnI, ts1, tl0, tl1, tl2, tl3, tl4, tl5, tl6, tl7, tl8, tl9, tl10, tl11, tl12, tl13, tl14, tl15, tl16, tl24, tl30, tl33, tl60, tl84, tl96, tl99, tl100, tl200, tlm1] at h1 h2 h3 h4 h6 h8 h9 h11 h15 ⊢ <;> omega)).elim)⟩⟩, fun h16 => ⟨fun h17 => ⟨fun h18 => ⟨((hc (by simp (disch := omega) only [m0, m3, ne_eq, not_true_eq_false, Rg, tlt, tle, teq, tnI, ts1, tl0, tl1, tl2, tl3, tl4, tl5, tl6, tl7, tl8, tl9, tl10, tl11, tl12, tl13, tl14, tl15, tl16, tl24, tl30, tl33, tl60, tl84, tl96, tl99, tl100, tl200, tlm1] at h1 h2 h3 h4 h6 h8 h16 h17 h18 ⊢ <;> omega)).elim), ((hc (by simp (disch := omega) only [m0, m3, ne_eq, not_true_eq_false, Rg, tlt, tle, teq, tnI, ts1, tl0, tl1, tl2, tl3, tl4, tl5, tl6, tl7, tl8, tl9, tl10, tl11, tl12, tl13, tl14, tl15, tl16, tl24, tl30, tl33, tl60, tl84, tl96, tl99, tl100, tl200, tlm1] at h1 h2 h3 h4 h6 h8 h16 h17 h18 ⊢ <;> omega)).elim)⟩, fun h19 => ((hc (by simp (disch := omega) only [m0, m3, ne_eq, not_true_eq_false, Rg, tlt, tle, teq, tnI, ts1, tl0, tl1, tl2, tl3, tl4, tl5, tl6, tl7, tl8, tl9, tl10, tl11, tl12, tl13, tl14, tl15, tl16, tl24, tl30, tl33, tl60, tl84, tl96, tl99, tl100, tl200, tlm1] at h1 h2 h3 h4 h6 h8 h16 h17 h19 ⊢ <;> omega)).elim)⟩, fun h20 => ((hc (by simp (disch := omega) only [m0, m3, ne_eq, not_true_eq_false, Rg, tlt, tle, teq, tnI, ts1, tl0, tl1, tl2, tl3, tl4, tl5, tl6, tl7, tl8, tl9, tl10, tl11, tl12, tl13, tl14, tl15, tl16, tl24, tl30, tl33, tl60, tl84, tl96, tl99, tl100, tl200, tlm1] at h1 h2 h3 h4 h6 h8 h16 h20 ⊢ <;> omega)).elim)⟩⟩⟩⟩, fun h21 => ((hR M (Ag.rf _ _) rfl))⟩, fun h22 => ((hR M (Ag.rf _ _) rfl))⟩, fun h23 => ((hR M (Ag.rf _ _) rfl))⟩, fun h24 => ((hR M (Ag.rf _ _) rfl))⟩
end
