-- dear, regiment
def msS (s : Nat → Int32) (k : Nat) : Int32 := pcI (sk s k &&& (brS s (mk (np s) &&& (((1 : Int32) <<< (nI k &&& 31)) ^^^ (-1))) ^^^ (-1)))
theorem ms_sm {s : Nat → Int32} (hI : Inv s) {k : Nat} (hk : k < np s) (y : Int32) : ∃ m, m < 2 ^ 14 ∧ sk s k &&& y = nI m := by
  have h14 := hI.2.1.2
  refine small_bits (n := 14) (by decide) (fun j hj => ?_)
  rw [b_and, Bool.and_eq_true] at hj
  have := (hI.2.2.2.1 k hk).2.2.2 j hj.1
  omega
theorem pc_nI {m : Nat} (h : m < 2 ^ 14) : pcI (nI m) = nI (pop 14 m) := by show nI (pop 14 (ix (nI m))) = _; rw [ix_nI (by omega)]
theorem ms_is {s : Nat → Int32} (hI : Inv s) {k : Nat} (hk : k < np s) : ∃ v, v < 15 ∧ msS s k = nI v := by
  obtain ⟨m, hm, e⟩ := ms_sm hI hk (brS s (mk (np s) &&& (((1 : Int32) <<< (nI k &&& 31)) ^^^ (-1))) ^^^ (-1))
  refine ⟨pop 14 m, Nat.lt_succ_of_le (pop_le 14 m), ?_⟩
  unfold msS
  rw [e, pc_nI hm]
def deF (s : Nat → Int32) : Nat → Int32 × Int32
  | 0 => (-1, -1)
  | i + 1 => if msS s i ≤ (deF s i).2 then deF s i else (nI i, msS s i)
theorem de_s (s : Nat → Int32) (i : Nat) : deF s (i + 1) = if msS s i ≤ (deF s i).2 then deF s i else (nI i, msS s i) := rfl
theorem de_is {s : Nat → Int32} (hI : Inv s) : ∀ i, i + 1 ≤ np s → ∃ j, j ≤ i ∧ deF s (i + 1) = (nI j, msS s j)
  | 0, hi => by
    obtain ⟨v, hv, e⟩ := ms_is hI (k := 0) (by omega)
    refine ⟨0, Nat.le_refl _, ?_⟩
    rw [de_s]
    show (if msS s 0 ≤ -1 then _ else _ : Int32 × Int32) = _
    rw [if_neg (by rw [e]; exact nle_m1 (by omega))]
  | i + 1, hi => by
    obtain ⟨j, hj, e⟩ := de_is hI i (by omega)
    rw [de_s]
    split
    · exact ⟨j, by omega, e⟩
    · exact ⟨i + 1, Nat.le_refl _, rfl⟩
def rgF (s : Nat → Int32) : Nat → Nat × Nat
  | 0 => (0, 9)
  | v + 1 => if (rgF s v).2 ≤ pop 14 v then rgF s v else if brS s (nI v) = brS s (mk (np s)) then (v, pop 14 v) else rgF s v
theorem rg_s (s : Nat → Int32) (v : Nat) : rgF s (v + 1) = if (rgF s v).2 ≤ pop 14 v then rgF s v else if brS s (nI v) = brS s (mk (np s)) then (v, pop 14 v) else rgF s v := rfl
def xgF (s : Nat → Int32) (v : Nat) : Nat := if (rgF s v).2 = 9 then 2 ^ np s - 1 else (rgF s v).1
theorem pop_all : ((List.range 9).all fun n => (List.range (2 ^ n - 1)).all fun v => decide (pop 14 v < n)) = true := by decide +kernel
theorem pop_sub {n v : Nat} (hn : n ≤ 8) (hv : v < 2 ^ n - 1) : pop 14 v < n := by
  have h := pop_all
  rw [List.all_eq_true] at h
  have h1 := h n (List.mem_range.mpr (by omega))
  rw [List.all_eq_true] at h1
  exact of_decide_eq_true (h1 v (List.mem_range.mpr hv))
theorem pop_full : ∀ n, n ≤ 8 → pop 14 (2 ^ n - 1) = n := by decide +kernel
theorem mk_is : ∀ n, n ≤ 8 → mk n = nI (2 ^ n - 1) := by decide +kernel
theorem sh_is : ∀ n, n ≤ 8 → ((1 : Int32) <<< (nI n &&& 31)) = nI (2 ^ n) := by decide +kernel
theorem p2_le {n : Nat} (hn : n ≤ 8) : 2 ^ n ≤ 256 := Nat.pow_le_pow_right (n := 2) (by decide) hn
theorem p2_pos (n : Nat) : 0 < 2 ^ n := Nat.pos_of_ne_zero (by simp)
theorem rg_is {s : Nat → Int32} (h8 : np s ≤ 8) : ∀ v, v ≤ 2 ^ np s - 1 → rgF s v = (0, 9) ∨ ((rgF s v).2 = pop 14 (rgF s v).1 ∧ (rgF s v).1 < 2 ^ np s - 1 ∧ (rgF s v).2 ≠ 9)
  | 0, _ => Or.inl rfl
  | v + 1, hv => by
    have ih := rg_is h8 v (by omega)
    have hp := pop_sub h8 (show v < 2 ^ np s - 1 by omega)
    rw [rg_s]
    split
    · exact ih
    · split
      · exact Or.inr ⟨rfl, by show v < _; omega, by show pop 14 v ≠ 9; omega⟩
      · exact ih
theorem xg_pop {s : Nat → Int32} (h8 : np s ≤ 8) {v : Nat} (hv : v ≤ 2 ^ np s - 1) : xgF s v ≤ 2 ^ np s - 1 ∧ pop 14 (xgF s v) = if (rgF s v).2 = 9 then np s else (rgF s v).2 := by
  unfold xgF
  by_cases q : (rgF s v).2 = 9
  · rw [if_pos q, if_pos q]
    exact ⟨Nat.le_refl _, pop_full _ h8⟩
  · rw [if_neg q, if_neg q]
    rcases rg_is h8 v hv with h | ⟨h1, h2, -⟩
    · exact absurd (by rw [h]) q
    · exact ⟨by omega, h1.symm⟩
theorem xg_s {s : Nat → Int32} (h8 : np s ≤ 8) {v : Nat} (hv : v < 2 ^ np s - 1) : xgF s (v + 1) = if pop 14 (xgF s v) ≤ pop 14 v then xgF s v else if brS s (nI v) = brS s (mk (np s)) then v else xgF s v := by
  have hp := pop_sub h8 hv
  have h2 := (xg_pop h8 (show v ≤ 2 ^ np s - 1 by omega)).2
  rw [h2]
  by_cases q : (rgF s v).2 = 9
  · rw [if_pos q, if_neg (by omega)]
    show (if (rgF s (v + 1)).2 = 9 then 2 ^ np s - 1 else (rgF s (v + 1)).1) = _
    rw [rg_s, if_neg (show ¬ (rgF s v).2 ≤ pop 14 v by omega)]
    by_cases e : brS s (nI v) = brS s (mk (np s))
    · rw [if_pos e, if_pos e]
      show (if pop 14 v = 9 then _ else v) = v
      rw [if_neg (by omega)]
    · rw [if_neg e, if_neg e]; rfl
  · rw [if_neg q]
    show (if (rgF s (v + 1)).2 = 9 then 2 ^ np s - 1 else (rgF s (v + 1)).1) = _
    rw [rg_s]
    by_cases c : (rgF s v).2 ≤ pop 14 v
    · rw [if_pos c, if_pos c]; rfl
    · rw [if_neg c, if_neg c]
      by_cases e : brS s (nI v) = brS s (mk (np s))
      · rw [if_pos e, if_pos e]
        show (if pop 14 v = 9 then _ else v) = v
        rw [if_neg (by omega)]
      · rw [if_neg e, if_neg e]; rfl
theorem rg_end {s : Nat → Int32} (h8 : np s ≤ 8) : rgF s (2 ^ np s) = (xgF s (2 ^ np s - 1), pop 14 (xgF s (2 ^ np s - 1))) := by
  have h0 := p2_pos (np s)
  have h2 := (xg_pop h8 (Nat.le_refl (2 ^ np s - 1))).2
  have hf := pop_full _ h8
  rw [h2, show 2 ^ np s = (2 ^ np s - 1) + 1 by omega, rg_s]
  rw [show 2 ^ np s - 1 + 1 - 1 = 2 ^ np s - 1 by omega, hf]
  unfold xgF
  by_cases q : (rgF s (2 ^ np s - 1)).2 = 9
  · rw [if_pos q, if_pos q, if_neg (by omega), if_pos (by rw [mk_is _ h8])]
  · rw [if_neg q, if_neg q]
    rcases rg_is h8 (2 ^ np s - 1) (Nat.le_refl _) with h | ⟨h1, h3, -⟩
    · exact absurd (by rw [h]) q
    · have := pop_sub h8 h3
      rw [if_pos (by omega)]
section
variable {l : Launch} {G : GT} {D : Nat} {M : Mem} {R : Option Value → Mem → Prop} {b : Nat} {s : Nat → Int32}
theorem sX1_waysMissed {k : Nat} (hb : IsLd b) (hD : 12 ≤ D) (hI : Inv s) (hL : LR M b s) (hk : k < np s) (hR : R (some (.int (msS s k))) M) : Tr l G D mX1_waysMissed [.ref (G.1 b), .int (nI k)] M R := by
  obtain ⟨d, rfl⟩ := dE (show 4 ≤ D by omega)
  have h8 := hI.1.2
  have e1 : M b 1 = nI (np s) := hL.1.1.trans hI.1.1
  refine tX1_waysMissed hb ⟨vpn (by omega) (by decide), ?_⟩
  rw [e1, ix_nI (by omega), hL.2.2.2.2.1 k (by omega)]
  refine sX1_skinsOf hb (by omega) hI hL (kI_i (bX1_waysMissed_20 ?_))
  obtain ⟨m, hm, e⟩ := ms_sm hI hk (brS s (mk (np s) &&& (((1 : Int32) <<< (nI k &&& 31)) ^^^ (-1))) ^^^ (-1))
  unfold msS at hR
  rw [e, pc_nI hm] at hR
  rw [e]
  exact sJ6_bitCount (by omega) hm (kI_i (bX1_waysMissed_26 hR))
def anDear (s : Nat → Int32) (q : Int32) : Int32 := if (q = 0 ∨ q = 1) then (if np s = 0 then (-1000000005) else if q = 0 then (deF s (np s)).1 else (deF s (np s)).2) else (-1000000001)
theorem X_dear {q : Int32} (hD : 20 ≤ D) (hRel : Rel M) (hR : ∀ M', Ag scX M M' → R (some (.int (anDear (M 101) q))) M') : Tr l G D mX7_dear [.ref (G.1 0), .int q] M R := by
  obtain ⟨d, rfl⟩ := dE (show 4 ≤ D by omega)
  have hL := hRel.1.1.1
  have hI := hRel.2.1.1
  have n1 : M 30 1 = nI (np (M 101)) := hL.1.1.trans hI.1.1
  have n6 : M 30 6 = nI (nw (M 101)) := hL.1.2.1.trans hI.2.1.1
  have hp := hI.1.2
  have hw := hI.2.1.2
  have hW := hI.2.1
  unfold anDear at hR
  by_cases hc : (q = 0 ∨ q = 1)
  · simp only [if_pos hc] at hR
    have nz : np (M 101) = 0 → R (some (.int (-1000000005))) M := fun h => by rw [if_pos h] at hR; exact hR M (Ag.rf _ _)
    have loop : ¬ np (M 101) = 0 → At l G (d + 4) mX7_dear 29 [some (.ref (G.1 0)), some (.int q), some (.int 0), some (.int 1)] [] M R := by
      intro h0
      rw [if_neg h0] at hR
      have main : ∀ i, i ≤ np (M 101) - 1 → At l G (d + 4) mX7_dear 29 [some (.ref (G.1 0)), some (.int q), some (.int (deF (M 101) (i + 1)).1), some (.int (nI (i + 1)))] [] M R := by
        refine upL (fun i => At l G (d + 4) mX7_dear 29 [some (.ref (G.1 0)), some (.int q), some (.int (deF (M 101) (i + 1)).1), some (.int (nI (i + 1)))] [] M R) (np (M 101) - 1) ?_ ?_
        · rw [show np (M 101) - 1 + 1 = np (M 101) by omega]
          refine bX7_dear_29 ⟨fun _ => ⟨fun h => ?_, fun h => ?_⟩, fun h => absurd (by rw [n1, le_nI (by omega) (by omega)]; exact Nat.le_refl _) h⟩
          · rw [if_pos h] at hR; exact hR M (Ag.rf _ _)
          · rw [if_neg h] at hR
            obtain ⟨j, hj, e⟩ := de_is hI (np (M 101) - 1) (by omega)
            rw [show np (M 101) - 1 + 1 = np (M 101) by omega] at e
            rw [e] at hR ⊢
            exact sX1_waysMissed ld30 (by omega) hI hL (by omega) (kI_i (bX7_dear_83 (hR M (Ag.rf _ _))))
        · intro i hi ih
          obtain ⟨j, hj, e⟩ := de_is hI i (by omega)
          rw [de_s, e] at ih
          rw [e]
          refine bX7_dear_29 ⟨fun h => absurd h (by rw [n1, le_nI (by omega) (by omega)]; omega), fun _ => ?_⟩
          refine sX1_waysMissed ld30 (by omega) hI hL (by omega) (kI_i (bX7_dear_48 ?_))
          refine sX1_waysMissed ld30 (by omega) hI hL (by omega) (kI_i (bX7_dear_56 ?_))
          rw [p1]
          exact ⟨fun h => by rw [if_pos h] at ih; exact ih, fun h => by rw [if_neg h] at ih; exact ih⟩
      have m1 := main 0 (by omega)
      obtain ⟨j, hj, e⟩ := de_is hI 0 (by omega)
      rw [e, show j = 0 by omega] at m1
      exact m1
    clear hR
    refine tX7_dear ⟨fun h1 => (absurd hc (fun hc => by simp (disch := omega) only [n1, n6, ne_eq, not_true_eq_false, Rg, tlt, tle, teq, tnI, ts1, tl0, tl1, tl2, tl3, tl4, tl5, tl6, tl7, tl8, tl9, tl10, tl11, tl12, tl13, tl14, tl15, tl16, tl24, tl30, tl33, tl60, tl84, tl96, tl99, tl100, tl200, tlm1, t44] at h1 hc <;> omega)), fun h2 => ⟨fun h3 => ⟨fun h4 => ?_, fun h5 => ?_⟩, fun h6 => (absurd hc (fun hc => by simp (disch := omega) only [n1, n6, ne_eq, not_true_eq_false, Rg, tlt, tle, teq, tnI, ts1, tl0, tl1, tl2, tl3, tl4, tl5, tl6, tl7, tl8, tl9, tl10, tl11, tl12, tl13, tl14, tl15, tl16, tl24, tl30, tl33, tl60, tl84, tl96, tl99, tl100, tl200, tlm1, t44] at h2 h6 hc <;> omega))⟩⟩
    · exact nz ((nI_eq (b := 0) (by omega) (by decide)).mp (n1.symm.trans h4))
    · exact loop (fun h => h5 (n1.trans (by rw [h]; rfl)))
  · simp only [if_neg hc] at hR
    exact tX7_dear ⟨fun h1 => (hR M (Ag.rf _ _)), fun h2 => ⟨fun h3 => ⟨fun h4 => ((hc (by simp (disch := omega) only [n1, n6, ne_eq, not_true_eq_false, Rg, tlt, tle, teq, tnI, ts1, tl0, tl1, tl2, tl3, tl4, tl5, tl6, tl7, tl8, tl9, tl10, tl11, tl12, tl13, tl14, tl15, tl16, tl24, tl30, tl33, tl60, tl84, tl96, tl99, tl100, tl200, tlm1, t44] at h2 h3 h4 ⊢ <;> omega)).elim), fun h5 => ((hc (by simp (disch := omega) only [n1, n6, ne_eq, not_true_eq_false, Rg, tlt, tle, teq, tnI, ts1, tl0, tl1, tl2, tl3, tl4, tl5, tl6, tl7, tl8, tl9, tl10, tl11, tl12, tl13, tl14, tl15, tl16, tl24, tl30, tl33, tl60, tl84, tl96, tl99, tl100, tl200, tlm1, t44] at h2 h3 h5 ⊢ <;> omega)).elim)⟩, fun h6 => (hR M (Ag.rf _ _))⟩⟩
theorem M_dear {q : Int32} (hD : 16 ≤ D) (hIS : IS M) (hR : ∀ M', Ag scY M M' → M' 101 = M 101 → R (some (.int (anDear (M 101) q))) M') : Tr l G D mX8_dear [.ref (G.1 100), .int q] M R := by
  obtain ⟨d, rfl⟩ := dE (show 4 ≤ D by omega)
  have hI := hIS.1.1
  have m0 : M 101 0 = nI (np (M 101)) := hI.1.1
  have m3 : M 101 3 = nI (nw (M 101)) := hI.2.1.1
  have hp := hI.1.2
  have hw := hI.2.1.2
  have hW := hI.2.1
  unfold anDear at hR
  by_cases hc : (q = 0 ∨ q = 1)
  · simp only [if_pos hc] at hR
    have main : ∀ i, i ≤ np (M 101) → At l G (d + 4) mX8_dear 20 [some (.ref (G.1 100)), some (.int q), some (.int (deF (M 101) i).1), some (.int (deF (M 101) i).2), some (.int (nI i)), none] [] M R := by
      refine upL (fun i => At l G (d + 4) mX8_dear 20 [some (.ref (G.1 100)), some (.int q), some (.int (deF (M 101) i).1), some (.int (deF (M 101) i).2), some (.int (nI i)), none] [] M R) (np (M 101)) ?_ ?_
      · have hR2 := hR M (Ag.rf _ _) rfl
        refine bX8_dear_20 ⟨fun _ => ?_, fun h => absurd (by rw [m0, le_nI (by omega) (by omega)]; exact Nat.le_refl _) h⟩
        by_cases h0 : np (M 101) = 0
        · rw [if_pos h0] at hR2
          rw [h0]
          exact ⟨fun h => absurd (show (0 : Int32) ≤ -1 from h) (by decide), fun _ => hR2⟩
        · rw [if_neg h0] at hR2
          obtain ⟨j, hj, e⟩ := de_is hI (np (M 101) - 1) (by omega)
          rw [show np (M 101) - 1 + 1 = np (M 101) by omega] at e
          rw [e] at hR2 ⊢
          exact ⟨fun _ => ⟨fun h => by rw [if_pos h] at hR2; exact hR2, fun h => by rw [if_neg h] at hR2; exact hR2⟩, fun h => absurd (zl j (by omega)) h⟩
      · intro i hi ih
        refine bX8_dear_20 ⟨fun h => absurd h (by rw [m0, le_nI (by omega) (by omega)]; omega), fun _ => ⟨v3 (by omega), ?_⟩⟩
        rw [m0, e3 (by omega)]
        refine sX8_borne (by omega) hI.1 (kI_i (bX8_dear_53 ?_))
        obtain ⟨m, hm, e⟩ := ms_sm hI hi (brS (M 101) (mk (np (M 101)) &&& (((1 : Int32) <<< (nI i &&& 31)) ^^^ (-1))) ^^^ (-1))
        have e' : msS (M 101) i = nI (pop 14 m) := by unfold msS; rw [e, pc_nI hm]
        rw [show M 101 (13 + 4 * i) &&& (brS (M 101) (mk (np (M 101)) &&& (((1 : Int32) <<< (nI i &&& 31)) ^^^ (-1))) ^^^ (-1)) = nI m from e]
        refine sX8_bits (by omega) hm (kI_i (bX8_dear_59 ?_))
        rw [← e', p1]
        rw [de_s] at ih
        exact ⟨fun h => ⟨fun _ => by rw [if_pos h] at ih; exact ih, fun h2 => absurd h h2⟩, fun h => ⟨fun h2 => absurd h2 h, fun _ => by rw [if_neg h] at ih; exact ih⟩⟩
    refine tX8_dear ⟨fun h1 => ⟨fun h2 => ?_, fun h3 => (absurd hc (fun hc => by simp (disch := omega) only [m0, m3, ne_eq, not_true_eq_false, Rg, tlt, tle, teq, tnI, ts1, tl0, tl1, tl2, tl3, tl4, tl5, tl6, tl7, tl8, tl9, tl10, tl11, tl12, tl13, tl14, tl15, tl16, tl24, tl30, tl33, tl60, tl84, tl96, tl99, tl100, tl200, tlm1, t44] at h1 h3 hc <;> omega))⟩, fun h4 => (absurd hc (fun hc => by simp (disch := omega) only [m0, m3, ne_eq, not_true_eq_false, Rg, tlt, tle, teq, tnI, ts1, tl0, tl1, tl2, tl3, tl4, tl5, tl6, tl7, tl8, tl9, tl10, tl11, tl12, tl13, tl14, tl15, tl16, tl24, tl30, tl33, tl60, tl84, tl96, tl99, tl100, tl200, tlm1, t44] at h4 hc <;> omega))⟩
    exact main 0 (Nat.zero_le _)
  · simp only [if_neg hc] at hR
    exact tX8_dear ⟨fun h1 => ⟨fun h2 => ((hc (by simp (disch := omega) only [m0, m3, ne_eq, not_true_eq_false, Rg, tlt, tle, teq, tnI, ts1, tl0, tl1, tl2, tl3, tl4, tl5, tl6, tl7, tl8, tl9, tl10, tl11, tl12, tl13, tl14, tl15, tl16, tl24, tl30, tl33, tl60, tl84, tl96, tl99, tl100, tl200, tlm1, t44] at h1 h2 ⊢ <;> omega)).elim), fun h3 => ((hR M (Ag.rf _ _) rfl))⟩, fun h4 => ((hR M (Ag.rf _ _) rfl))⟩
def anRegiment (s : Nat → Int32) (q : Int32) : Int32 := if (q = 0 ∨ q = 1) then (if q = 0 then nI (xgF s (2 ^ np s - 1)) else nI (pop 14 (xgF s (2 ^ np s - 1)))) else (-1000000001)
theorem X_regiment {q : Int32} (hD : 20 ≤ D) (hRel : Rel M) (hR : ∀ M', Ag scX M M' → R (some (.int (anRegiment (M 101) q))) M') : Tr l G D mX7_regiment [.ref (G.1 0), .int q] M R := by
  obtain ⟨d, rfl⟩ := dE (show 4 ≤ D by omega)
  have hL := hRel.1.1.1
  have hI := hRel.2.1.1
  have n1 : M 30 1 = nI (np (M 101)) := hL.1.1.trans hI.1.1
  have n6 : M 30 6 = nI (nw (M 101)) := hL.1.2.1.trans hI.2.1.1
  have hp := hI.1.2
  have hw := hI.2.1.2
  have hW := hI.2.1
  unfold anRegiment at hR
  by_cases hc : (q = 0 ∨ q = 1)
  · simp only [if_pos hc] at hR
    have h0 := p2_pos (np (M 101))
    have h2 := p2_le hp
    have es := sh_is _ hp
    have em := mk_is _ hp
    have hx := (xg_pop hp (Nat.le_refl (2 ^ np (M 101) - 1))).1
    have fin : At l G (d + 4) mX7_regiment 19 [none, some (.int q), none] [.int (nI (xgF (M 101) (2 ^ np (M 101) - 1)))] M R := by
      have hR2 := hR M (Ag.rf _ _)
      refine bX7_regiment_19 ⟨fun h => by rw [if_pos h] at hR2; exact hR2, fun h => ?_⟩
      rw [if_neg h] at hR2
      exact sJ6_bitCount (by omega) (by omega) (kI_i (bX7_regiment_32 hR2))
    have go : Tr l G (d + 3) mX1_fewestBearers [.ref (G.1 30)] M (kI fun q_1 M' => At l G (d + 4) mX7_regiment 19 [none, some (.int q), none] [.int q_1] M' R) := by
      obtain ⟨d, rfl⟩ : ∃ e, d = e + 1 := ⟨d - 1, by omega⟩
      refine tX1_fewestBearers (d := d) ld30 ?_
      rw [n1]
      refine sX1_skinsOf ld30 (by omega) hI hL (kI_i (bX1_fewestBearers_10 ld30 ?_))
      have last : ∀ v, v = 2 ^ np (M 101) → At l G (d + 4) mX1_fewestBearers 13 [some (.ref (G.1 30)), some (.int (nI (xgF (M 101) (2 ^ np (M 101) - 1)))), some (.int (brS (M 101) (mk (np (M 101))))), some (.int (nI v))] [] M (kI fun q_1 M' => At l G (d + 1 + 4) mX7_regiment 19 [none, some (.int q), none] [.int q_1] M' R) := by
        intro v hv
        refine bX1_fewestBearers_13 ld30 ⟨fun _ => kI_i fin, fun h => absurd ?_ h⟩
        rw [n1, es, le_nI (by omega) (by omega)]
        omega
      have main : ∀ v, v ≤ 2 ^ np (M 101) - 1 → At l G (d + 4) mX1_fewestBearers 13 [some (.ref (G.1 30)), some (.int (nI (xgF (M 101) v))), some (.int (brS (M 101) (mk (np (M 101))))), some (.int (nI v))] [] M (kI fun q_1 M' => At l G (d + 1 + 4) mX7_regiment 19 [none, some (.int q), none] [.int q_1] M' R) := by
        refine upL (fun v => At l G (d + 4) mX1_fewestBearers 13 [some (.ref (G.1 30)), some (.int (nI (xgF (M 101) v))), some (.int (brS (M 101) (mk (np (M 101))))), some (.int (nI v))] [] M (kI fun q_1 M' => At l G (d + 1 + 4) mX7_regiment 19 [none, some (.int q), none] [.int q_1] M' R)) (2 ^ np (M 101) - 1) ?_ ?_
        · have hpf := pop_full _ hp
          have hx2 := (xg_pop hp (Nat.le_refl (2 ^ np (M 101) - 1))).2
          refine bX1_fewestBearers_13 ld30 ⟨fun h => absurd h (by rw [n1, es, le_nI (by omega) (by omega)]; omega), fun _ => ?_⟩
          refine sJ6_bitCount (by omega) (by omega) (kI_i (bX1_fewestBearers_27 ld30 ?_))
          refine sJ6_bitCount (by omega) (by omega) (kI_i (bX1_fewestBearers_31 ld30 ⟨fun _ => ?_, fun h => absurd ?_ h⟩))
          · rw [p1]
            exact last _ (by omega)
          · have p3 := pop_le 14 (xgF (M 101) (2 ^ np (M 101) - 1))
            rw [hpf, le_nI (by omega) (by omega), hx2]
            split
            · exact Nat.le_refl _
            · rcases rg_is hp (2 ^ np (M 101) - 1) (Nat.le_refl _) with h | ⟨h1, h3, -⟩
              · next q => exact absurd (by rw [h]) q
              · have := pop_sub hp h3
                omega
        · intro v hv ih
          have hxv := (xg_pop hp (show v ≤ 2 ^ np (M 101) - 1 by omega)).1
          have p3 := pop_le 14 (xgF (M 101) v)
          have p4 := pop_le 14 v
          refine bX1_fewestBearers_13 ld30 ⟨fun h => absurd h (by rw [n1, es, le_nI (by omega) (by omega)]; omega), fun _ => ?_⟩
          refine sJ6_bitCount (by omega) (by omega) (kI_i (bX1_fewestBearers_27 ld30 ?_))
          refine sJ6_bitCount (by omega) (by omega) (kI_i (bX1_fewestBearers_31 ld30 ⟨fun h => ?_, fun h => ?_⟩))
          · rw [le_nI (by omega) (by omega)] at h
            rw [xg_s hp hv, if_pos h] at ih
            rw [p1]
            exact ih
          · rw [le_nI (by omega) (by omega)] at h
            rw [xg_s hp hv, if_neg h] at ih
            refine sX1_skinsOf ld30 (by omega) hI hL (kI_i (bX1_fewestBearers_39 ld30 ?_))
            rw [p1]
            exact ⟨fun h => by rw [if_pos h] at ih; exact ih, fun h => by rw [if_neg h] at ih; exact ih⟩
      have m1 := main 0 (Nat.zero_le _)
      rw [show xgF (M 101) 0 = 2 ^ np (M 101) - 1 from rfl, ← em] at m1
      exact m1
    refine tX7_regiment ⟨fun h1 => (absurd hc (fun hc => by simp (disch := omega) only [n1, n6, ne_eq, not_true_eq_false, Rg, tlt, tle, teq, tnI, ts1, tl0, tl1, tl2, tl3, tl4, tl5, tl6, tl7, tl8, tl9, tl10, tl11, tl12, tl13, tl14, tl15, tl16, tl24, tl30, tl33, tl60, tl84, tl96, tl99, tl100, tl200, tlm1, t44] at h1 hc <;> omega)), fun h2 => ⟨fun h3 => ?_, fun h4 => (absurd hc (fun hc => by simp (disch := omega) only [n1, n6, ne_eq, not_true_eq_false, Rg, tlt, tle, teq, tnI, ts1, tl0, tl1, tl2, tl3, tl4, tl5, tl6, tl7, tl8, tl9, tl10, tl11, tl12, tl13, tl14, tl15, tl16, tl24, tl30, tl33, tl60, tl84, tl96, tl99, tl100, tl200, tlm1, t44] at h2 h4 hc <;> omega))⟩⟩
    exact go
  · simp only [if_neg hc] at hR
    exact tX7_regiment ⟨fun h1 => (hR M (Ag.rf _ _)), fun h2 => ⟨fun h3 => ((hc (by simp (disch := omega) only [n1, n6, ne_eq, not_true_eq_false, Rg, tlt, tle, teq, tnI, ts1, tl0, tl1, tl2, tl3, tl4, tl5, tl6, tl7, tl8, tl9, tl10, tl11, tl12, tl13, tl14, tl15, tl16, tl24, tl30, tl33, tl60, tl84, tl96, tl99, tl100, tl200, tlm1, t44] at h2 h3 ⊢ <;> omega)).elim), fun h4 => (hR M (Ag.rf _ _))⟩⟩
theorem M_regiment {q : Int32} (hD : 16 ≤ D) (hIS : IS M) (hR : ∀ M', Ag scY M M' → M' 101 = M 101 → R (some (.int (anRegiment (M 101) q))) M') : Tr l G D mX8_regiment [.ref (G.1 100), .int q] M R := by
  obtain ⟨d, rfl⟩ := dE (show 4 ≤ D by omega)
  have hI := hIS.1.1
  have m0 : M 101 0 = nI (np (M 101)) := hI.1.1
  have m3 : M 101 3 = nI (nw (M 101)) := hI.2.1.1
  have hp := hI.1.2
  have hw := hI.2.1.2
  have hW := hI.2.1
  unfold anRegiment at hR
  by_cases hc : (q = 0 ∨ q = 1)
  · simp only [if_pos hc] at hR
    have h0 := p2_pos (np (M 101))
    have h2 := p2_le hp
    have em : ((1 : Int32) <<< (nI (np (M 101)) &&& 31)) - 1 = nI (2 ^ np (M 101) - 1) := mk_is _ hp
    have main : ∀ v, v ≤ 2 ^ np (M 101) → At l G (d + 4) mX8_regiment 31 [some (.ref (G.1 100)), some (.int q), some (.int (brS (M 101) (mk (np (M 101))))), some (.int (nI (rgF (M 101) v).1)), some (.int (nI (rgF (M 101) v).2)), some (.int (nI v))] [] M R := by
      refine upL (fun v => At l G (d + 4) mX8_regiment 31 [some (.ref (G.1 100)), some (.int q), some (.int (brS (M 101) (mk (np (M 101))))), some (.int (nI (rgF (M 101) v).1)), some (.int (nI (rgF (M 101) v).2)), some (.int (nI v))] [] M R) (2 ^ np (M 101)) ?_ ?_
      · have hR2 := hR M (Ag.rf _ _) rfl
        rw [rg_end hp]
        refine bX8_regiment_31 ⟨fun _ => ⟨fun h => by rw [if_pos h] at hR2; exact hR2, fun h => by rw [if_neg h] at hR2; exact hR2⟩, fun h => absurd ?_ h⟩
        rw [m0, em, lt_nI (by omega) (by omega)]
        omega
      · intro v hv ih
        have p4 := pop_le 14 v
        have p5 : (rgF (M 101) v).2 ≤ 14 := by
          rcases rg_is hp v (by omega) with h | ⟨h1, -, -⟩
          · rw [h]; decide
          · rw [h1]; exact pop_le 14 _
        rw [rg_s] at ih
        refine bX8_regiment_31 ⟨fun h => absurd h (by rw [m0, em, lt_nI (by omega) (by omega)]; omega), fun _ => ?_⟩
        refine sX8_bits (by omega) (by omega) (kI_i (bX8_regiment_45 ⟨fun h => ?_, fun h => ?_⟩))
        · rw [le_nI (by omega) (by omega)] at h
          rw [if_pos h] at ih
          rw [p1]
          exact ih
        · rw [le_nI (by omega) (by omega)] at h
          rw [if_neg h] at ih
          refine sX8_borne (by omega) hI.1 (kI_i (bX8_regiment_56 ⟨fun e => ?_, fun e => ?_⟩))
          · rw [if_pos e] at ih
            refine sX8_bits (by omega) (by omega) (kI_i (bX8_regiment_68 ?_))
            rw [p1]
            exact ih
          · rw [if_neg e] at ih
            rw [p1]
            exact ih
    refine tX8_regiment ⟨fun h1 => ⟨fun h2 => ?_, fun h3 => (absurd hc (fun hc => by simp (disch := omega) only [m0, m3, ne_eq, not_true_eq_false, Rg, tlt, tle, teq, tnI, ts1, tl0, tl1, tl2, tl3, tl4, tl5, tl6, tl7, tl8, tl9, tl10, tl11, tl12, tl13, tl14, tl15, tl16, tl24, tl30, tl33, tl60, tl84, tl96, tl99, tl100, tl200, tlm1, t44] at h1 h3 hc <;> omega))⟩, fun h4 => (absurd hc (fun hc => by simp (disch := omega) only [m0, m3, ne_eq, not_true_eq_false, Rg, tlt, tle, teq, tnI, ts1, tl0, tl1, tl2, tl3, tl4, tl5, tl6, tl7, tl8, tl9, tl10, tl11, tl12, tl13, tl14, tl15, tl16, tl24, tl30, tl33, tl60, tl84, tl96, tl99, tl100, tl200, tlm1, t44] at h4 hc <;> omega))⟩
    rw [m0]
    exact sX8_borne (by omega) hI.1 (kI_i (bX8_regiment_21 (main 0 (Nat.zero_le _))))
  · simp only [if_neg hc] at hR
    exact tX8_regiment ⟨fun h1 => ⟨fun h2 => ((hc (by simp (disch := omega) only [m0, m3, ne_eq, not_true_eq_false, Rg, tlt, tle, teq, tnI, ts1, tl0, tl1, tl2, tl3, tl4, tl5, tl6, tl7, tl8, tl9, tl10, tl11, tl12, tl13, tl14, tl15, tl16, tl24, tl30, tl33, tl60, tl84, tl96, tl99, tl100, tl200, tlm1, t44] at h1 h2 ⊢ <;> omega)).elim), fun h3 => ((hR M (Ag.rf _ _) rfl))⟩, fun h4 => ((hR M (Ag.rf _ _) rfl))⟩
end
