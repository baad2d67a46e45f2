-- public methods: people, ways, rules
theorem wi_up {s : Nat → Int32} (h : WI s) {j : Nat} (hj : 3 ≠ j) (v : Int32) : WI (upd s j v) := by
  unfold WI nw
  rw [pk_un hj]
  exact h
theorem bt_bit {x : Int32} {w : Nat} (hw : w < 32) (h : ¬ bt x w = true) : x ||| ((1 : Int32) <<< (nI w &&& 31)) = x ^^^ ((1 : Int32) <<< (nI w &&& 31)) := by
  apply b_ext
  intro i hi
  rw [b_or, b_xor, bt_one hw]
  by_cases e : i = w
  · rw [e]; simp at h; simp [h]
  · simp [e]
theorem bt_neg {i : Nat} (hi : i < 32) : bt (-1) i = true := by
  have : ∀ i, i < 32 → bt (-1) i = true := by decide +kernel
  exact this i hi
theorem bt_off {x : Int32} {w : Nat} (hw : w < 32) (h : bt x w = true) : x &&& (((1 : Int32) <<< (nI w &&& 31)) ^^^ (-1)) = x ^^^ ((1 : Int32) <<< (nI w &&& 31)) := by
  apply b_ext
  intro i hi
  rw [b_and, b_xor, b_xor, bt_one hw, bt_neg hi]
  by_cases e : i = w
  · rw [e]; simp [h]
  · simp [e]
section
variable {l : Launch} {G : GT} {D : Nat} {M : Mem} {R : Option Value → Mem → Prop} {b : Nat} {s : Nat → Int32}
theorem sX1_addWay {f t : Nat} (hb : IsLd b) (hD : 4 ≤ D) (hI : Inv s) (hL : LR M b s) (hf : f < 10) (ht : t < 10) (hne : f ≠ t) (hR : ∀ M', Ag (ldC b) M M' → LR M' b (if nw s = 14 then s else wyS s (nI f) (nI t)) → R (some (.int (if nw s = 14 then (-1000000003) else s 3))) M') : Tr l G D mX1_addWay [.ref (G.1 b), .int (nI f), .int (nI t)] M R := by
  obtain ⟨d, rfl⟩ := dE hD
  have h14 := hI.2.1.2
  have e1 : M b 6 = nI (nw s) := hL.1.2.1.trans hI.2.1.1
  have e3 : s 3 = nI (nw s) := hI.2.1.1
  refine tX1_addWay hb ⟨fun h => ?_, fun h => ?_⟩
  · rw [e1, show (14 : Int32) = nI 14 from rfl, lt_nI (by omega) (by omega)] at h
    rw [if_neg (by omega), if_neg (by omega)] at hR
    have hv : vp_in (M b 6) 14 := by rw [e1]; exact vpn h (by decide)
    refine ⟨hv, hv, vpn hf (by decide), vpn hf (by decide), fun M6 hM6 => ⟨vpn ht (by decide), vpn ht (by decide), fun M9 hM9 M10 hM10 => ?_⟩⟩
    subst hM10 hM9 hM6
    rw [e1]
    rw [← e3]
    refine hR _ ?_ ?_
    · refine (((((((Ag.rf _ M).ua ?_ _).ua ?_ _).ua ?_ _).ua ?_ _).ua ?_ _).ua ?_ _) <;> simp [ldC]
    · have s1 : b + 5 ≠ b + 6 := by omega
      refine LR_way hI hL hf ht hne h ?_ ?_ ?_ ?_ ?_ ?_ ?_ ?_
      · intro i h6 h10
        simp (disch := omega) only [um_s, um_n, pk_us, pk_un, e3, ix_nI]
      · simp (disch := omega) only [um_s, um_n, pk_us, pk_un, e3, ix_nI]
        rw [e1]
      · simp (disch := omega) only [um_s, um_n, pk_us, pk_un, e3, ix_nI]
      · intro j h1 h4
        simp (disch := omega) only [um_s, um_n, pk_us, pk_un, e3, ix_nI]
      · simp (disch := omega) only [um_s, um_n, pk_us, pk_un, e3, ix_nI]
      · simp (disch := omega) only [um_s, um_n, pk_us, pk_un, e3, ix_nI]
      · intro p hp
        simp (disch := omega) only [um_s, um_n, pk_us, pk_un, e3, ix_nI]
        by_cases q1 : p = t
        · rw [q1, pk_us, if_pos (Or.inr rfl)]
        · rw [pk_un q1]
          by_cases q2 : p = f
          · rw [q2, pk_us, if_pos (Or.inl rfl)]
          · rw [pk_un q2, if_neg (by omega)]
      · simp (disch := omega) only [um_s, um_n, pk_us, pk_un, e3, ix_nI]
  · rw [e1, show (14 : Int32) = nI 14 from rfl, lt_nI (by omega) (by omega)] at h
    have e : nw s = 14 := by omega
    rw [if_pos e, if_pos e] at hR
    exact hR M (Ag.rf _ _) hL
def anWay (s : Nat → Int32) (f t : Int32) : Int32 := if Rg 10 f ∧ Rg 10 t ∧ f ≠ t then (if nw s = 14 then (-1000000003) else s 3) else (-1000000001)
def nxWay (s : Nat → Int32) (f t : Int32) : Nat → Int32 := if Rg 10 f ∧ Rg 10 t ∧ f ≠ t then (if nw s = 14 then s else wyS s f t) else s
theorem X_way {f t : Int32} (hD : 8 ≤ D) (hRel : Rel M) (hR : ∀ M', Ag (scX ++ ldC 30) M M' → LR M' 30 (nxWay (M 101) f t) → R (some (.int (anWay (M 101) f t))) M') : Tr l G D mX7_way [.ref (G.1 0), .int f, .int t] M R := by
  obtain ⟨d, rfl⟩ := dE (show 4 ≤ D by omega)
  have hL := hRel.1.1.1
  have hI := hRel.2.1.1
  have n1 : M 30 1 = nI (np (M 101)) := hL.1.1.trans hI.1.1
  have n6 : M 30 6 = nI (nw (M 101)) := hL.1.2.1.trans hI.2.1.1
  have hp := hI.1.2
  have hw := hI.2.1.2
  have hW := hI.2.1
  unfold anWay nxWay at hR
  by_cases hc : Rg 10 f ∧ Rg 10 t ∧ f ≠ t
  · simp only [if_pos hc] at hR
    obtain ⟨f, hf, rfl⟩ := hc.1.ex
    have xf := ix_nI (show f < 2 ^ 31 by omega)
    obtain ⟨t, ht, rfl⟩ := hc.2.1.ex
    have xt := ix_nI (show t < 2 ^ 31 by omega)
    try simp only [xf, xt] at hR
    have hne : f ≠ t := fun e => hc.2.2 (by rw [e])
    refine tX7_way ⟨fun h1 => (absurd hc (fun hc => by simp (disch := omega) only [n1, n6, ne_eq, not_true_eq_false, Rg, tlt, tle, teq, tnI, ts1, tl0, tl1, tl2, tl3, tl4, tl5, tl6, tl7, tl8, tl9, tl10, tl11, tl12, tl13, tl14, tl15, tl16, tl24, tl30, tl33, tl60, tl84, tl96, tl99, tl100, tl200, tlm1] at h1 hc <;> omega)), fun h2 => ⟨fun h3 => (absurd hc (fun hc => by simp (disch := omega) only [n1, n6, ne_eq, not_true_eq_false, Rg, tlt, tle, teq, tnI, ts1, tl0, tl1, tl2, tl3, tl4, tl5, tl6, tl7, tl8, tl9, tl10, tl11, tl12, tl13, tl14, tl15, tl16, tl24, tl30, tl33, tl60, tl84, tl96, tl99, tl100, tl200, tlm1] at h2 h3 hc <;> omega)), fun h4 => ⟨fun h5 => (absurd hc (fun hc => by simp (disch := omega) only [n1, n6, ne_eq, not_true_eq_false, Rg, tlt, tle, teq, tnI, ts1, tl0, tl1, tl2, tl3, tl4, tl5, tl6, tl7, tl8, tl9, tl10, tl11, tl12, tl13, tl14, tl15, tl16, tl24, tl30, tl33, tl60, tl84, tl96, tl99, tl100, tl200, tlm1] at h2 h4 h5 hc <;> omega)), fun h6 => ⟨fun h7 => (absurd hc (fun hc => by simp (disch := omega) only [n1, n6, ne_eq, not_true_eq_false, Rg, tlt, tle, teq, tnI, ts1, tl0, tl1, tl2, tl3, tl4, tl5, tl6, tl7, tl8, tl9, tl10, tl11, tl12, tl13, tl14, tl15, tl16, tl24, tl30, tl33, tl60, tl84, tl96, tl99, tl100, tl200, tlm1] at h2 h4 h6 h7 hc <;> omega)), fun h8 => ⟨fun h9 => (absurd hc (fun hc => by simp (disch := omega) only [n1, n6, ne_eq, not_true_eq_false, Rg, tlt, tle, teq, tnI, ts1, tl0, tl1, tl2, tl3, tl4, tl5, tl6, tl7, tl8, tl9, tl10, tl11, tl12, tl13, tl14, tl15, tl16, tl24, tl30, tl33, tl60, tl84, tl96, tl99, tl100, tl200, tlm1] at h2 h4 h6 h8 h9 hc <;> omega)), fun h10 => ?_⟩⟩⟩⟩⟩
    exact sX1_addWay ld30 (by omega) hI hL hf ht hne (fun M' hA hL' => kI_i (bX7_way_31 (hR M' (hA.sub (fun k hk => List.mem_append_right _ hk)) hL')))
  · simp only [if_neg hc] at hR
    exact tX7_way ⟨fun h1 => (hR M (Ag.rf _ _) hL), fun h2 => ⟨fun h3 => (hR M (Ag.rf _ _) hL), fun h4 => ⟨fun h5 => (hR M (Ag.rf _ _) hL), fun h6 => ⟨fun h7 => (hR M (Ag.rf _ _) hL), fun h8 => ⟨fun h9 => (hR M (Ag.rf _ _) hL), fun h10 => ((hc (by simp (disch := omega) only [n1, n6, ne_eq, not_true_eq_false, Rg, tlt, tle, teq, tnI, ts1, tl0, tl1, tl2, tl3, tl4, tl5, tl6, tl7, tl8, tl9, tl10, tl11, tl12, tl13, tl14, tl15, tl16, tl24, tl30, tl33, tl60, tl84, tl96, tl99, tl100, tl200, tlm1] at h2 h4 h6 h8 h10 ⊢ <;> omega)).elim)⟩⟩⟩⟩⟩
theorem M_way {f t : Int32} (hD : 8 ≤ D) (hIS : IS M) (hR : ∀ M', Ag scY M M' → M' 101 = nxWay (M 101) f t → R (some (.int (anWay (M 101) f t))) M') : Tr l G D mX8_way [.ref (G.1 100), .int f, .int t] M R := by
  obtain ⟨d, rfl⟩ := dE (show 4 ≤ D by omega)
  have hI := hIS.1.1
  have m0 : M 101 0 = nI (np (M 101)) := hI.1.1
  have m3 : M 101 3 = nI (nw (M 101)) := hI.2.1.1
  have hp := hI.1.2
  have hw := hI.2.1.2
  have hW := hI.2.1
  unfold anWay nxWay at hR
  by_cases hc : Rg 10 f ∧ Rg 10 t ∧ f ≠ t
  · simp only [if_pos hc] at hR
    obtain ⟨f, hf, rfl⟩ := hc.1.ex
    have xf := ix_nI (show f < 2 ^ 31 by omega)
    obtain ⟨t, ht, rfl⟩ := hc.2.1.ex
    have xt := ix_nI (show t < 2 ^ 31 by omega)
    try simp only [xf, xt] at hR
    refine tX8_way ⟨fun h1 => ⟨fun h2 => ⟨fun h3 => ⟨fun h4 => ⟨fun h5 => (absurd hc (fun hc => by simp (disch := omega) only [m0, m3, ne_eq, not_true_eq_false, Rg, tlt, tle, teq, tnI, ts1, tl0, tl1, tl2, tl3, tl4, tl5, tl6, tl7, tl8, tl9, tl10, tl11, tl12, tl13, tl14, tl15, tl16, tl24, tl30, tl33, tl60, tl84, tl96, tl99, tl100, tl200, tlm1] at h1 h2 h3 h4 h5 hc <;> omega)), fun h6 => ⟨fun h7 => ?_, fun h8 => ⟨?_, fun M4 eM4 => ⟨?_, ?_, fun M7 eM7 => ?_⟩⟩⟩⟩, fun h9 => (absurd hc (fun hc => by simp (disch := omega) only [m0, m3, ne_eq, not_true_eq_false, Rg, tlt, tle, teq, tnI, ts1, tl0, tl1, tl2, tl3, tl4, tl5, tl6, tl7, tl8, tl9, tl10, tl11, tl12, tl13, tl14, tl15, tl16, tl24, tl30, tl33, tl60, tl84, tl96, tl99, tl100, tl200, tlm1] at h1 h2 h3 h9 hc <;> omega))⟩, fun h10 => (absurd hc (fun hc => by simp (disch := omega) only [m0, m3, ne_eq, not_true_eq_false, Rg, tlt, tle, teq, tnI, ts1, tl0, tl1, tl2, tl3, tl4, tl5, tl6, tl7, tl8, tl9, tl10, tl11, tl12, tl13, tl14, tl15, tl16, tl24, tl30, tl33, tl60, tl84, tl96, tl99, tl100, tl200, tlm1] at h1 h2 h10 hc <;> omega))⟩, fun h11 => (absurd hc (fun hc => by simp (disch := omega) only [m0, m3, ne_eq, not_true_eq_false, Rg, tlt, tle, teq, tnI, ts1, tl0, tl1, tl2, tl3, tl4, tl5, tl6, tl7, tl8, tl9, tl10, tl11, tl12, tl13, tl14, tl15, tl16, tl24, tl30, tl33, tl60, tl84, tl96, tl99, tl100, tl200, tlm1] at h1 h11 hc <;> omega))⟩, fun h12 => (absurd hc (fun hc => by simp (disch := omega) only [m0, m3, ne_eq, not_true_eq_false, Rg, tlt, tle, teq, tnI, ts1, tl0, tl1, tl2, tl3, tl4, tl5, tl6, tl7, tl8, tl9, tl10, tl11, tl12, tl13, tl14, tl15, tl16, tl24, tl30, tl33, tl60, tl84, tl96, tl99, tl100, tl200, tlm1] at h12 hc <;> omega))⟩
    · rw [m3, show (14 : Int32) = nI 14 from rfl, nI_eq (by omega) (by omega)] at h7
      simp only [if_pos h7] at hR
      exact hR M (Ag.rf _ _) rfl
    all_goals rw [m3, show (14 : Int32) = nI 14 from rfl, nI_eq (by omega) (by omega)] at h8
    · rw [m3]; exact vw0 (by omega)
    · rw [m3]; exact vw1 (by omega)
    · rw [m3]; exact vw2 (by omega)
    · simp only [if_neg h8] at hR
      have f0 : ix (42 + 3 * M 101 3) = 42 + 3 * nw (M 101) := by rw [m3, f0 (by omega)]
      have f1 : ix (42 + 3 * M 101 3 + 1) = 43 + 3 * nw (M 101) := by rw [m3, f1 (by omega)]
      have f2 : ix (42 + 3 * M 101 3 + 2) = 44 + 3 * nw (M 101) := by rw [m3, f2 (by omega)]
      subst eM7 eM4
      exact hR _ (((((Ag.rf _ _).ua (by decide) _).ua (by decide) _).ua (by decide) _).ua (by decide) _) (by simp only [um_s, f0, f1, f2]; rfl)
  · simp only [if_neg hc] at hR
    exact tX8_way ⟨fun h1 => ⟨fun h2 => ⟨fun h3 => ⟨fun h4 => ⟨fun h5 => (hR M (Ag.rf _ _) rfl), fun h6 => ⟨fun h7 => ((hc (by simp (disch := omega) only [m0, m3, ne_eq, not_true_eq_false, Rg, tlt, tle, teq, tnI, ts1, tl0, tl1, tl2, tl3, tl4, tl5, tl6, tl7, tl8, tl9, tl10, tl11, tl12, tl13, tl14, tl15, tl16, tl24, tl30, tl33, tl60, tl84, tl96, tl99, tl100, tl200, tlm1] at h1 h2 h3 h4 h6 h7 ⊢ <;> omega)).elim), fun h8 => ⟨((hc (by simp (disch := omega) only [m0, m3, ne_eq, not_true_eq_false, Rg, tlt, tle, teq, tnI, ts1, tl0, tl1, tl2, tl3, tl4, tl5, tl6, tl7, tl8, tl9, tl10, tl11, tl12, tl13, tl14, tl15, tl16, tl24, tl30, tl33, tl60, tl84, tl96, tl99, tl100, tl200, tlm1] at h1 h2 h3 h4 h6 h8 ⊢ <;> omega)).elim), fun M4 eM4 => ⟨((hc (by simp (disch := omega) only [m0, m3, ne_eq, not_true_eq_false, Rg, tlt, tle, teq, tnI, ts1, tl0, tl1, tl2, tl3, tl4, tl5, tl6, tl7, tl8, tl9, tl10, tl11, tl12, tl13, tl14, tl15, tl16, tl24, tl30, tl33, tl60, tl84, tl96, tl99, tl100, tl200, tlm1] at h1 h2 h3 h4 h6 h8 ⊢ <;> omega)).elim), ((hc (by simp (disch := omega) only [m0, m3, ne_eq, not_true_eq_false, Rg, tlt, tle, teq, tnI, ts1, tl0, tl1, tl2, tl3, tl4, tl5, tl6, tl7, tl8, tl9, tl10, tl11, tl12, tl13, tl14, tl15, tl16, tl24, tl30, tl33, tl60, tl84, tl96, tl99, tl100, tl200, tlm1] at h1 h2 h3 h4 h6 h8 ⊢ <;> omega)).elim), fun M7 eM7 => ((hc (by simp (disch := omega) only [m0, m3, ne_eq, not_true_eq_false, Rg, tlt, tle, teq, tnI, ts1, tl0, tl1, tl2, tl3, tl4, tl5, tl6, tl7, tl8, tl9, tl10, tl11, tl12, tl13, tl14, tl15, tl16, tl24, tl30, tl33, tl60, tl84, tl96, tl99, tl100, tl200, tlm1] at h1 h2 h3 h4 h6 h8 ⊢ <;> omega)).elim)⟩⟩⟩⟩, fun h9 => (hR M (Ag.rf _ _) rfl)⟩, fun h10 => (hR M (Ag.rf _ _) rfl)⟩, fun h11 => (hR M (Ag.rf _ _) rfl)⟩, fun h12 => (hR M (Ag.rf _ _) rfl)⟩
def anTurns (s : Nat → Int32) (k c : Int32) : Int32 := if Rg (np s) k ∧ Rg 6 c then s (10 + 4 * ix k) else (-1000000001)
def nxTurns (s : Nat → Int32) (k c : Int32) : Nat → Int32 := if Rg (np s) k ∧ Rg 6 c then upd s (10 + 4 * ix k) c else s
theorem X_turns {k c : Int32} (hD : 8 ≤ D) (hRel : Rel M) (hR : ∀ M', Ag (scX ++ ldC 30) M M' → LR M' 30 (nxTurns (M 101) k c) → R (some (.int (anTurns (M 101) k c))) M') : Tr l G D mX7_turns [.ref (G.1 0), .int k, .int c] M R := by
  obtain ⟨d, rfl⟩ := dE (show 4 ≤ D by omega)
  have hL := hRel.1.1.1
  have hI := hRel.2.1.1
  have n1 : M 30 1 = nI (np (M 101)) := hL.1.1.trans hI.1.1
  have n6 : M 30 6 = nI (nw (M 101)) := hL.1.2.1.trans hI.2.1.1
  have hp := hI.1.2
  have hw := hI.2.1.2
  have hW := hI.2.1
  unfold anTurns nxTurns at hR
  by_cases hc : Rg (np (M 101)) k ∧ Rg 6 c
  · simp only [if_pos hc] at hR
    obtain ⟨k, hk, rfl⟩ := hc.1.ex
    have xk := ix_nI (show k < 2 ^ 31 by omega)
    try simp only [xk] at hR
    refine tX7_turns ⟨fun h1 => (absurd hc (fun hc => by simp (disch := omega) only [n1, n6, ne_eq, not_true_eq_false, Rg, tlt, tle, teq, tnI, ts1, tl0, tl1, tl2, tl3, tl4, tl5, tl6, tl7, tl8, tl9, tl10, tl11, tl12, tl13, tl14, tl15, tl16, tl24, tl30, tl33, tl60, tl84, tl96, tl99, tl100, tl200, tlm1] at h1 hc <;> omega)), fun h2 => ⟨fun h3 => (absurd hc (fun hc => by simp (disch := omega) only [n1, n6, ne_eq, not_true_eq_false, Rg, tlt, tle, teq, tnI, ts1, tl0, tl1, tl2, tl3, tl4, tl5, tl6, tl7, tl8, tl9, tl10, tl11, tl12, tl13, tl14, tl15, tl16, tl24, tl30, tl33, tl60, tl84, tl96, tl99, tl100, tl200, tlm1] at h2 h3 hc <;> omega)), fun h4 => ⟨fun h5 => (absurd hc (fun hc => by simp (disch := omega) only [n1, n6, ne_eq, not_true_eq_false, Rg, tlt, tle, teq, tnI, ts1, tl0, tl1, tl2, tl3, tl4, tl5, tl6, tl7, tl8, tl9, tl10, tl11, tl12, tl13, tl14, tl15, tl16, tl24, tl30, tl33, tl60, tl84, tl96, tl99, tl100, tl200, tlm1] at h2 h4 h5 hc <;> omega)), fun h6 => ⟨fun h7 => (absurd hc (fun hc => by simp (disch := omega) only [n1, n6, ne_eq, not_true_eq_false, Rg, tlt, tle, teq, tnI, ts1, tl0, tl1, tl2, tl3, tl4, tl5, tl6, tl7, tl8, tl9, tl10, tl11, tl12, tl13, tl14, tl15, tl16, tl24, tl30, tl33, tl60, tl84, tl96, tl99, tl100, tl200, tlm1] at h2 h4 h6 h7 hc <;> omega)), fun h8 => ⟨?_, ?_, ?_⟩⟩⟩⟩⟩
    · exact vpn (by omega) (by decide)
    · exact vpn (by omega) (by decide)
    · rw [xk, show M 31 k = kd (M 101) k from hL.2.1 k (by omega)]
      exact hR (um M 31 k c) ((Ag.rf _ _).ua (by decide) _) (LR_kd (i := k) hW hL (by omega) c)
  · simp only [if_neg hc] at hR
    exact tX7_turns ⟨fun h1 => (hR M (Ag.rf _ _) hL), fun h2 => ⟨fun h3 => (hR M (Ag.rf _ _) hL), fun h4 => ⟨fun h5 => (hR M (Ag.rf _ _) hL), fun h6 => ⟨fun h7 => (hR M (Ag.rf _ _) hL), fun h8 => ⟨((hc (by simp (disch := omega) only [n1, n6, ne_eq, not_true_eq_false, Rg, tlt, tle, teq, tnI, ts1, tl0, tl1, tl2, tl3, tl4, tl5, tl6, tl7, tl8, tl9, tl10, tl11, tl12, tl13, tl14, tl15, tl16, tl24, tl30, tl33, tl60, tl84, tl96, tl99, tl100, tl200, tlm1] at h2 h4 h6 h8 ⊢ <;> omega)).elim), ((hc (by simp (disch := omega) only [n1, n6, ne_eq, not_true_eq_false, Rg, tlt, tle, teq, tnI, ts1, tl0, tl1, tl2, tl3, tl4, tl5, tl6, tl7, tl8, tl9, tl10, tl11, tl12, tl13, tl14, tl15, tl16, tl24, tl30, tl33, tl60, tl84, tl96, tl99, tl100, tl200, tlm1] at h2 h4 h6 h8 ⊢ <;> omega)).elim), ((hc (by simp (disch := omega) only [n1, n6, ne_eq, not_true_eq_false, Rg, tlt, tle, teq, tnI, ts1, tl0, tl1, tl2, tl3, tl4, tl5, tl6, tl7, tl8, tl9, tl10, tl11, tl12, tl13, tl14, tl15, tl16, tl24, tl30, tl33, tl60, tl84, tl96, tl99, tl100, tl200, tlm1] at h2 h4 h6 h8 ⊢ <;> omega)).elim)⟩⟩⟩⟩⟩
theorem M_turns {k c : Int32} (hD : 8 ≤ D) (hIS : IS M) (hR : ∀ M', Ag scY M M' → M' 101 = nxTurns (M 101) k c → R (some (.int (anTurns (M 101) k c))) M') : Tr l G D mX8_turns [.ref (G.1 100), .int k, .int c] M R := by
  obtain ⟨d, rfl⟩ := dE (show 4 ≤ D by omega)
  have hI := hIS.1.1
  have m0 : M 101 0 = nI (np (M 101)) := hI.1.1
  have m3 : M 101 3 = nI (nw (M 101)) := hI.2.1.1
  have hp := hI.1.2
  have hw := hI.2.1.2
  have hW := hI.2.1
  unfold anTurns nxTurns at hR
  by_cases hc : Rg (np (M 101)) k ∧ Rg 6 c
  · simp only [if_pos hc] at hR
    obtain ⟨k, hk, rfl⟩ := hc.1.ex
    have xk := ix_nI (show k < 2 ^ 31 by omega)
    try simp only [xk] at hR
    refine tX8_turns ⟨fun h1 => ⟨fun h2 => ⟨fun h3 => ⟨fun h4 => ⟨?_, ?_, ?_⟩, fun h5 => (absurd hc (fun hc => by simp (disch := omega) only [m0, m3, ne_eq, not_true_eq_false, Rg, tlt, tle, teq, tnI, ts1, tl0, tl1, tl2, tl3, tl4, tl5, tl6, tl7, tl8, tl9, tl10, tl11, tl12, tl13, tl14, tl15, tl16, tl24, tl30, tl33, tl60, tl84, tl96, tl99, tl100, tl200, tlm1] at h1 h2 h3 h5 hc <;> omega))⟩, fun h6 => (absurd hc (fun hc => by simp (disch := omega) only [m0, m3, ne_eq, not_true_eq_false, Rg, tlt, tle, teq, tnI, ts1, tl0, tl1, tl2, tl3, tl4, tl5, tl6, tl7, tl8, tl9, tl10, tl11, tl12, tl13, tl14, tl15, tl16, tl24, tl30, tl33, tl60, tl84, tl96, tl99, tl100, tl200, tlm1] at h1 h2 h6 hc <;> omega))⟩, fun h7 => (absurd hc (fun hc => by simp (disch := omega) only [m0, m3, ne_eq, not_true_eq_false, Rg, tlt, tle, teq, tnI, ts1, tl0, tl1, tl2, tl3, tl4, tl5, tl6, tl7, tl8, tl9, tl10, tl11, tl12, tl13, tl14, tl15, tl16, tl24, tl30, tl33, tl60, tl84, tl96, tl99, tl100, tl200, tlm1] at h1 h7 hc <;> omega))⟩, fun h8 => (absurd hc (fun hc => by simp (disch := omega) only [m0, m3, ne_eq, not_true_eq_false, Rg, tlt, tle, teq, tnI, ts1, tl0, tl1, tl2, tl3, tl4, tl5, tl6, tl7, tl8, tl9, tl10, tl11, tl12, tl13, tl14, tl15, tl16, tl24, tl30, tl33, tl60, tl84, tl96, tl99, tl100, tl200, tlm1] at h8 hc <;> omega))⟩
    · exact v4 (by omega)
    · exact v4 (by omega)
    · rw [e4 (by omega)]
      exact hR _ ((Ag.rf _ _).ua (by decide) _) (um_s _ _ _ _)
  · simp only [if_neg hc] at hR
    exact tX8_turns ⟨fun h1 => ⟨fun h2 => ⟨fun h3 => ⟨fun h4 => ⟨((hc (by simp (disch := omega) only [m0, m3, ne_eq, not_true_eq_false, Rg, tlt, tle, teq, tnI, ts1, tl0, tl1, tl2, tl3, tl4, tl5, tl6, tl7, tl8, tl9, tl10, tl11, tl12, tl13, tl14, tl15, tl16, tl24, tl30, tl33, tl60, tl84, tl96, tl99, tl100, tl200, tlm1] at h1 h2 h3 h4 ⊢ <;> omega)).elim), ((hc (by simp (disch := omega) only [m0, m3, ne_eq, not_true_eq_false, Rg, tlt, tle, teq, tnI, ts1, tl0, tl1, tl2, tl3, tl4, tl5, tl6, tl7, tl8, tl9, tl10, tl11, tl12, tl13, tl14, tl15, tl16, tl24, tl30, tl33, tl60, tl84, tl96, tl99, tl100, tl200, tlm1] at h1 h2 h3 h4 ⊢ <;> omega)).elim), ((hc (by simp (disch := omega) only [m0, m3, ne_eq, not_true_eq_false, Rg, tlt, tle, teq, tnI, ts1, tl0, tl1, tl2, tl3, tl4, tl5, tl6, tl7, tl8, tl9, tl10, tl11, tl12, tl13, tl14, tl15, tl16, tl24, tl30, tl33, tl60, tl84, tl96, tl99, tl100, tl200, tlm1] at h1 h2 h3 h4 ⊢ <;> omega)).elim)⟩, fun h5 => (hR M (Ag.rf _ _) rfl)⟩, fun h6 => (hR M (Ag.rf _ _) rfl)⟩, fun h7 => (hR M (Ag.rf _ _) rfl)⟩, fun h8 => (hR M (Ag.rf _ _) rfl)⟩
def anSet (s : Nat → Int32) (k q v : Int32) : Int32 := if Rg (np s) k ∧ ((q = 1 ∧ Rg 10 v) ∨ (q = 2 ∧ Rg 100 v)) then s (10 + 4 * ix k + ix q) else (-1000000001)
def nxSet (s : Nat → Int32) (k q v : Int32) : Nat → Int32 := if Rg (np s) k ∧ ((q = 1 ∧ Rg 10 v) ∨ (q = 2 ∧ Rg 100 v)) then upd s (10 + 4 * ix k + ix q) v else s
theorem X_set {k q v : Int32} (hD : 8 ≤ D) (hRel : Rel M) (hR : ∀ M', Ag (scX ++ ldC 30) M M' → LR M' 30 (nxSet (M 101) k q v) → R (some (.int (anSet (M 101) k q v))) M') : Tr l G D mX7_set [.ref (G.1 0), .int k, .int q, .int v] M R := by
  obtain ⟨d, rfl⟩ := dE (show 4 ≤ D by omega)
  have hL := hRel.1.1.1
  have hI := hRel.2.1.1
  have n1 : M 30 1 = nI (np (M 101)) := hL.1.1.trans hI.1.1
  have n6 : M 30 6 = nI (nw (M 101)) := hL.1.2.1.trans hI.2.1.1
  have hp := hI.1.2
  have hw := hI.2.1.2
  have hW := hI.2.1
  unfold anSet nxSet at hR
  by_cases hc : Rg (np (M 101)) k ∧ ((q = 1 ∧ Rg 10 v) ∨ (q = 2 ∧ Rg 100 v))
  · simp only [if_pos hc] at hR
    obtain ⟨k, hk, rfl⟩ := hc.1.ex
    have xk := ix_nI (show k < 2 ^ 31 by omega)
    try simp only [xk] at hR
    have a1 : ix (1 : Int32) = 1 := by decide
    have a2 : ix (2 : Int32) = 2 := by decide
    rcases hc.2 with ⟨rfl, hv⟩ | ⟨rfl, hv⟩
    · have no : ¬ (1 : Int32) = 2 := by decide
      rw [a1, show 10 + 4 * k + 1 = 11 + 4 * k by omega] at hR
      refine tX7_set ⟨fun h1 => (absurd hc (fun hc => by simp (disch := omega) only [n1, n6, ne_eq, not_true_eq_false, Rg, tlt, tle, teq, tnI, ts1, tl0, tl1, tl2, tl3, tl4, tl5, tl6, tl7, tl8, tl9, tl10, tl11, tl12, tl13, tl14, tl15, tl16, tl24, tl30, tl33, tl60, tl84, tl96, tl99, tl100, tl200, tlm1] at h1 hc <;> omega)), fun h2 => ⟨fun h3 => (absurd hc (fun hc => by simp (disch := omega) only [n1, n6, ne_eq, not_true_eq_false, Rg, tlt, tle, teq, tnI, ts1, tl0, tl1, tl2, tl3, tl4, tl5, tl6, tl7, tl8, tl9, tl10, tl11, tl12, tl13, tl14, tl15, tl16, tl24, tl30, tl33, tl60, tl84, tl96, tl99, tl100, tl200, tlm1] at h2 h3 hc <;> omega)), fun h4 => ⟨fun h5 => ⟨fun h6 => ⟨fun h7 => ⟨fun h8 => (absurd hc (fun hc => by simp (disch := omega) only [n1, n6, ne_eq, not_true_eq_false, Rg, tlt, tle, teq, tnI, ts1, tl0, tl1, tl2, tl3, tl4, tl5, tl6, tl7, tl8, tl9, tl10, tl11, tl12, tl13, tl14, tl15, tl16, tl24, tl30, tl33, tl60, tl84, tl96, tl99, tl100, tl200, tlm1] at h2 h4 h5 h6 h7 h8 hc <;> omega)), fun h9 => ⟨fun h10 => (absurd hc (fun hc => by simp (disch := omega) only [n1, n6, ne_eq, not_true_eq_false, Rg, tlt, tle, teq, tnI, ts1, tl0, tl1, tl2, tl3, tl4, tl5, tl6, tl7, tl8, tl9, tl10, tl11, tl12, tl13, tl14, tl15, tl16, tl24, tl30, tl33, tl60, tl84, tl96, tl99, tl100, tl200, tlm1] at h2 h4 h5 h6 h7 h9 h10 hc <;> omega)), fun h11 => ⟨?_, ?_, ?_⟩⟩⟩, fun h12 => (absurd hc (fun hc => by simp (disch := omega) only [n1, n6, ne_eq, not_true_eq_false, Rg, tlt, tle, teq, tnI, ts1, tl0, tl1, tl2, tl3, tl4, tl5, tl6, tl7, tl8, tl9, tl10, tl11, tl12, tl13, tl14, tl15, tl16, tl24, tl30, tl33, tl60, tl84, tl96, tl99, tl100, tl200, tlm1] at h2 h4 h5 h6 h12 hc <;> omega))⟩, fun h13 => ⟨fun h14 => ⟨fun h15 => ⟨fun h16 => (absurd hc (fun hc => by simp (disch := omega) only [n1, n6, ne_eq, not_true_eq_false, Rg, tlt, tle, teq, tnI, ts1, tl0, tl1, tl2, tl3, tl4, tl5, tl6, tl7, tl8, tl9, tl10, tl11, tl12, tl13, tl14, tl15, tl16, tl24, tl30, tl33, tl60, tl84, tl96, tl99, tl100, tl200, tlm1] at h2 h4 h5 h13 h14 h15 h16 hc <;> omega)), fun h17 => ⟨fun h18 => (absurd hc (fun hc => by simp (disch := omega) only [n1, n6, ne_eq, not_true_eq_false, Rg, tlt, tle, teq, tnI, ts1, tl0, tl1, tl2, tl3, tl4, tl5, tl6, tl7, tl8, tl9, tl10, tl11, tl12, tl13, tl14, tl15, tl16, tl24, tl30, tl33, tl60, tl84, tl96, tl99, tl100, tl200, tlm1] at h2 h4 h5 h13 h14 h15 h17 h18 hc <;> omega)), fun h19 => ⟨?_, ?_, ?_⟩⟩⟩, fun h20 => (absurd hc (fun hc => by simp (disch := omega) only [n1, n6, ne_eq, not_true_eq_false, Rg, tlt, tle, teq, tnI, ts1, tl0, tl1, tl2, tl3, tl4, tl5, tl6, tl7, tl8, tl9, tl10, tl11, tl12, tl13, tl14, tl15, tl16, tl24, tl30, tl33, tl60, tl84, tl96, tl99, tl100, tl200, tlm1] at h2 h4 h5 h13 h14 h20 hc <;> omega))⟩, fun h21 => ⟨?_, ?_, ?_⟩⟩⟩, fun h22 => ⟨fun h23 => ⟨fun h24 => (absurd hc (fun hc => by simp (disch := omega) only [n1, n6, ne_eq, not_true_eq_false, Rg, tlt, tle, teq, tnI, ts1, tl0, tl1, tl2, tl3, tl4, tl5, tl6, tl7, tl8, tl9, tl10, tl11, tl12, tl13, tl14, tl15, tl16, tl24, tl30, tl33, tl60, tl84, tl96, tl99, tl100, tl200, tlm1] at h2 h4 h22 h23 h24 hc <;> omega)), fun h25 => ⟨fun h26 => (absurd hc (fun hc => by simp (disch := omega) only [n1, n6, ne_eq, not_true_eq_false, Rg, tlt, tle, teq, tnI, ts1, tl0, tl1, tl2, tl3, tl4, tl5, tl6, tl7, tl8, tl9, tl10, tl11, tl12, tl13, tl14, tl15, tl16, tl24, tl30, tl33, tl60, tl84, tl96, tl99, tl100, tl200, tlm1] at h2 h4 h22 h23 h25 h26 hc <;> omega)), fun h27 => ⟨?_, ?_, ?_⟩⟩⟩, fun h28 => (absurd hc (fun hc => by simp (disch := omega) only [n1, n6, ne_eq, not_true_eq_false, Rg, tlt, tle, teq, tnI, ts1, tl0, tl1, tl2, tl3, tl4, tl5, tl6, tl7, tl8, tl9, tl10, tl11, tl12, tl13, tl14, tl15, tl16, tl24, tl30, tl33, tl60, tl84, tl96, tl99, tl100, tl200, tlm1] at h2 h4 h22 h28 hc <;> omega))⟩⟩⟩⟩
      all_goals first | exact absurd (by assumption : (1 : Int32) = 2) no | exact vpn (by omega) (by decide) | skip
      all_goals first | (rw [xk, show M 32 k = pl (M 101) k from hL.2.2.1 k (by omega)]; exact hR (um M 32 k v) ((Ag.rf _ _).ua (by decide) _) (LR_pl (i := k) hW hL (by omega) v)) | skip
    · have no : ¬ (2 : Int32) = 1 := by decide
      rw [a2, show 10 + 4 * k + 2 = 12 + 4 * k by omega] at hR
      refine tX7_set ⟨fun h1 => (absurd hc (fun hc => by simp (disch := omega) only [n1, n6, ne_eq, not_true_eq_false, Rg, tlt, tle, teq, tnI, ts1, tl0, tl1, tl2, tl3, tl4, tl5, tl6, tl7, tl8, tl9, tl10, tl11, tl12, tl13, tl14, tl15, tl16, tl24, tl30, tl33, tl60, tl84, tl96, tl99, tl100, tl200, tlm1] at h1 hc <;> omega)), fun h2 => ⟨fun h3 => (absurd hc (fun hc => by simp (disch := omega) only [n1, n6, ne_eq, not_true_eq_false, Rg, tlt, tle, teq, tnI, ts1, tl0, tl1, tl2, tl3, tl4, tl5, tl6, tl7, tl8, tl9, tl10, tl11, tl12, tl13, tl14, tl15, tl16, tl24, tl30, tl33, tl60, tl84, tl96, tl99, tl100, tl200, tlm1] at h2 h3 hc <;> omega)), fun h4 => ⟨fun h5 => ⟨fun h6 => ⟨fun h7 => ⟨fun h8 => (absurd hc (fun hc => by simp (disch := omega) only [n1, n6, ne_eq, not_true_eq_false, Rg, tlt, tle, teq, tnI, ts1, tl0, tl1, tl2, tl3, tl4, tl5, tl6, tl7, tl8, tl9, tl10, tl11, tl12, tl13, tl14, tl15, tl16, tl24, tl30, tl33, tl60, tl84, tl96, tl99, tl100, tl200, tlm1] at h2 h4 h5 h6 h7 h8 hc <;> omega)), fun h9 => ⟨fun h10 => (absurd hc (fun hc => by simp (disch := omega) only [n1, n6, ne_eq, not_true_eq_false, Rg, tlt, tle, teq, tnI, ts1, tl0, tl1, tl2, tl3, tl4, tl5, tl6, tl7, tl8, tl9, tl10, tl11, tl12, tl13, tl14, tl15, tl16, tl24, tl30, tl33, tl60, tl84, tl96, tl99, tl100, tl200, tlm1] at h2 h4 h5 h6 h7 h9 h10 hc <;> omega)), fun h11 => ⟨?_, ?_, ?_⟩⟩⟩, fun h12 => (absurd hc (fun hc => by simp (disch := omega) only [n1, n6, ne_eq, not_true_eq_false, Rg, tlt, tle, teq, tnI, ts1, tl0, tl1, tl2, tl3, tl4, tl5, tl6, tl7, tl8, tl9, tl10, tl11, tl12, tl13, tl14, tl15, tl16, tl24, tl30, tl33, tl60, tl84, tl96, tl99, tl100, tl200, tlm1] at h2 h4 h5 h6 h12 hc <;> omega))⟩, fun h13 => ⟨fun h14 => ⟨fun h15 => ⟨fun h16 => (absurd hc (fun hc => by simp (disch := omega) only [n1, n6, ne_eq, not_true_eq_false, Rg, tlt, tle, teq, tnI, ts1, tl0, tl1, tl2, tl3, tl4, tl5, tl6, tl7, tl8, tl9, tl10, tl11, tl12, tl13, tl14, tl15, tl16, tl24, tl30, tl33, tl60, tl84, tl96, tl99, tl100, tl200, tlm1] at h2 h4 h5 h13 h14 h15 h16 hc <;> omega)), fun h17 => ⟨fun h18 => (absurd hc (fun hc => by simp (disch := omega) only [n1, n6, ne_eq, not_true_eq_false, Rg, tlt, tle, teq, tnI, ts1, tl0, tl1, tl2, tl3, tl4, tl5, tl6, tl7, tl8, tl9, tl10, tl11, tl12, tl13, tl14, tl15, tl16, tl24, tl30, tl33, tl60, tl84, tl96, tl99, tl100, tl200, tlm1] at h2 h4 h5 h13 h14 h15 h17 h18 hc <;> omega)), fun h19 => ⟨?_, ?_, ?_⟩⟩⟩, fun h20 => (absurd hc (fun hc => by simp (disch := omega) only [n1, n6, ne_eq, not_true_eq_false, Rg, tlt, tle, teq, tnI, ts1, tl0, tl1, tl2, tl3, tl4, tl5, tl6, tl7, tl8, tl9, tl10, tl11, tl12, tl13, tl14, tl15, tl16, tl24, tl30, tl33, tl60, tl84, tl96, tl99, tl100, tl200, tlm1] at h2 h4 h5 h13 h14 h20 hc <;> omega))⟩, fun h21 => ⟨?_, ?_, ?_⟩⟩⟩, fun h22 => ⟨fun h23 => ⟨fun h24 => (absurd hc (fun hc => by simp (disch := omega) only [n1, n6, ne_eq, not_true_eq_false, Rg, tlt, tle, teq, tnI, ts1, tl0, tl1, tl2, tl3, tl4, tl5, tl6, tl7, tl8, tl9, tl10, tl11, tl12, tl13, tl14, tl15, tl16, tl24, tl30, tl33, tl60, tl84, tl96, tl99, tl100, tl200, tlm1] at h2 h4 h22 h23 h24 hc <;> omega)), fun h25 => ⟨fun h26 => (absurd hc (fun hc => by simp (disch := omega) only [n1, n6, ne_eq, not_true_eq_false, Rg, tlt, tle, teq, tnI, ts1, tl0, tl1, tl2, tl3, tl4, tl5, tl6, tl7, tl8, tl9, tl10, tl11, tl12, tl13, tl14, tl15, tl16, tl24, tl30, tl33, tl60, tl84, tl96, tl99, tl100, tl200, tlm1] at h2 h4 h22 h23 h25 h26 hc <;> omega)), fun h27 => ⟨?_, ?_, ?_⟩⟩⟩, fun h28 => (absurd hc (fun hc => by simp (disch := omega) only [n1, n6, ne_eq, not_true_eq_false, Rg, tlt, tle, teq, tnI, ts1, tl0, tl1, tl2, tl3, tl4, tl5, tl6, tl7, tl8, tl9, tl10, tl11, tl12, tl13, tl14, tl15, tl16, tl24, tl30, tl33, tl60, tl84, tl96, tl99, tl100, tl200, tlm1] at h2 h4 h22 h28 hc <;> omega))⟩⟩⟩⟩
      all_goals first | exact absurd (by assumption : (2 : Int32) = 1) no | exact vpn (by omega) (by decide) | skip
      all_goals first | (rw [xk, show M 33 k = ag (M 101) k from hL.2.2.2.1 k (by omega)]; exact hR (um M 33 k v) ((Ag.rf _ _).ua (by decide) _) (LR_ag (i := k) hW hL (by omega) v)) | skip
  · simp only [if_neg hc] at hR
    exact tX7_set ⟨fun h1 => (hR M (Ag.rf _ _) hL), fun h2 => ⟨fun h3 => (hR M (Ag.rf _ _) hL), fun h4 => ⟨fun h5 => ⟨fun h6 => ⟨fun h7 => ⟨fun h8 => (hR M (Ag.rf _ _) hL), fun h9 => ⟨fun h10 => (hR M (Ag.rf _ _) hL), fun h11 => ⟨((hc (by simp (disch := omega) only [n1, n6, ne_eq, not_true_eq_false, Rg, tlt, tle, teq, tnI, ts1, tl0, tl1, tl2, tl3, tl4, tl5, tl6, tl7, tl8, tl9, tl10, tl11, tl12, tl13, tl14, tl15, tl16, tl24, tl30, tl33, tl60, tl84, tl96, tl99, tl100, tl200, tlm1] at h2 h4 h5 h6 h7 h9 h11 ⊢ <;> omega)).elim), ((hc (by simp (disch := omega) only [n1, n6, ne_eq, not_true_eq_false, Rg, tlt, tle, teq, tnI, ts1, tl0, tl1, tl2, tl3, tl4, tl5, tl6, tl7, tl8, tl9, tl10, tl11, tl12, tl13, tl14, tl15, tl16, tl24, tl30, tl33, tl60, tl84, tl96, tl99, tl100, tl200, tlm1] at h2 h4 h5 h6 h7 h9 h11 ⊢ <;> omega)).elim), ((hc (by simp (disch := omega) only [n1, n6, ne_eq, not_true_eq_false, Rg, tlt, tle, teq, tnI, ts1, tl0, tl1, tl2, tl3, tl4, tl5, tl6, tl7, tl8, tl9, tl10, tl11, tl12, tl13, tl14, tl15, tl16, tl24, tl30, tl33, tl60, tl84, tl96, tl99, tl100, tl200, tlm1] at h2 h4 h5 h6 h7 h9 h11 ⊢ <;> omega)).elim)⟩⟩⟩, fun h12 => (hR M (Ag.rf _ _) hL)⟩, fun h13 => ⟨fun h14 => ⟨fun h15 => ⟨fun h16 => (hR M (Ag.rf _ _) hL), fun h17 => ⟨fun h18 => (hR M (Ag.rf _ _) hL), fun h19 => ⟨((hc (by simp (disch := omega) only [n1, n6, ne_eq, not_true_eq_false, Rg, tlt, tle, teq, tnI, ts1, tl0, tl1, tl2, tl3, tl4, tl5, tl6, tl7, tl8, tl9, tl10, tl11, tl12, tl13, tl14, tl15, tl16, tl24, tl30, tl33, tl60, tl84, tl96, tl99, tl100, tl200, tlm1] at h2 h4 h5 h13 h14 h15 h17 h19 ⊢ <;> omega)).elim), ((hc (by simp (disch := omega) only [n1, n6, ne_eq, not_true_eq_false, Rg, tlt, tle, teq, tnI, ts1, tl0, tl1, tl2, tl3, tl4, tl5, tl6, tl7, tl8, tl9, tl10, tl11, tl12, tl13, tl14, tl15, tl16, tl24, tl30, tl33, tl60, tl84, tl96, tl99, tl100, tl200, tlm1] at h2 h4 h5 h13 h14 h15 h17 h19 ⊢ <;> omega)).elim), ((hc (by simp (disch := omega) only [n1, n6, ne_eq, not_true_eq_false, Rg, tlt, tle, teq, tnI, ts1, tl0, tl1, tl2, tl3, tl4, tl5, tl6, tl7, tl8, tl9, tl10, tl11, tl12, tl13, tl14, tl15, tl16, tl24, tl30, tl33, tl60, tl84, tl96, tl99, tl100, tl200, tlm1] at h2 h4 h5 h13 h14 h15 h17 h19 ⊢ <;> omega)).elim)⟩⟩⟩, fun h20 => (hR M (Ag.rf _ _) hL)⟩, fun h21 => ⟨((hc (by simp (disch := omega) only [n1, n6, ne_eq, not_true_eq_false, Rg, tlt, tle, teq, tnI, ts1, tl0, tl1, tl2, tl3, tl4, tl5, tl6, tl7, tl8, tl9, tl10, tl11, tl12, tl13, tl14, tl15, tl16, tl24, tl30, tl33, tl60, tl84, tl96, tl99, tl100, tl200, tlm1] at h2 h4 h5 h13 h21 ⊢ <;> omega)).elim), ((hc (by simp (disch := omega) only [n1, n6, ne_eq, not_true_eq_false, Rg, tlt, tle, teq, tnI, ts1, tl0, tl1, tl2, tl3, tl4, tl5, tl6, tl7, tl8, tl9, tl10, tl11, tl12, tl13, tl14, tl15, tl16, tl24, tl30, tl33, tl60, tl84, tl96, tl99, tl100, tl200, tlm1] at h2 h4 h5 h13 h21 ⊢ <;> omega)).elim), ((hc (by simp (disch := omega) only [n1, n6, ne_eq, not_true_eq_false, Rg, tlt, tle, teq, tnI, ts1, tl0, tl1, tl2, tl3, tl4, tl5, tl6, tl7, tl8, tl9, tl10, tl11, tl12, tl13, tl14, tl15, tl16, tl24, tl30, tl33, tl60, tl84, tl96, tl99, tl100, tl200, tlm1] at h2 h4 h5 h13 h21 ⊢ <;> omega)).elim)⟩⟩⟩, fun h22 => ⟨fun h23 => ⟨fun h24 => (hR M (Ag.rf _ _) hL), fun h25 => ⟨fun h26 => (hR M (Ag.rf _ _) hL), fun h27 => ⟨((hc (by simp (disch := omega) only [n1, n6, ne_eq, not_true_eq_false, Rg, tlt, tle, teq, tnI, ts1, tl0, tl1, tl2, tl3, tl4, tl5, tl6, tl7, tl8, tl9, tl10, tl11, tl12, tl13, tl14, tl15, tl16, tl24, tl30, tl33, tl60, tl84, tl96, tl99, tl100, tl200, tlm1] at h2 h4 h22 h23 h25 h27 ⊢ <;> omega)).elim), ((hc (by simp (disch := omega) only [n1, n6, ne_eq, not_true_eq_false, Rg, tlt, tle, teq, tnI, ts1, tl0, tl1, tl2, tl3, tl4, tl5, tl6, tl7, tl8, tl9, tl10, tl11, tl12, tl13, tl14, tl15, tl16, tl24, tl30, tl33, tl60, tl84, tl96, tl99, tl100, tl200, tlm1] at h2 h4 h22 h23 h25 h27 ⊢ <;> omega)).elim), ((hc (by simp (disch := omega) only [n1, n6, ne_eq, not_true_eq_false, Rg, tlt, tle, teq, tnI, ts1, tl0, tl1, tl2, tl3, tl4, tl5, tl6, tl7, tl8, tl9, tl10, tl11, tl12, tl13, tl14, tl15, tl16, tl24, tl30, tl33, tl60, tl84, tl96, tl99, tl100, tl200, tlm1] at h2 h4 h22 h23 h25 h27 ⊢ <;> omega)).elim)⟩⟩⟩, fun h28 => (hR M (Ag.rf _ _) hL)⟩⟩⟩⟩
theorem M_set {k q v : Int32} (hD : 8 ≤ D) (hIS : IS M) (hR : ∀ M', Ag scY M M' → M' 101 = nxSet (M 101) k q v → R (some (.int (anSet (M 101) k q v))) M') : Tr l G D mX8_set [.ref (G.1 100), .int k, .int q, .int v] M R := by
  obtain ⟨d, rfl⟩ := dE (show 4 ≤ D by omega)
  have hI := hIS.1.1
  have m0 : M 101 0 = nI (np (M 101)) := hI.1.1
  have m3 : M 101 3 = nI (nw (M 101)) := hI.2.1.1
  have hp := hI.1.2
  have hw := hI.2.1.2
  have hW := hI.2.1
  unfold anSet nxSet at hR
  by_cases hc : Rg (np (M 101)) k ∧ ((q = 1 ∧ Rg 10 v) ∨ (q = 2 ∧ Rg 100 v))
  · simp only [if_pos hc] at hR
    obtain ⟨k, hk, rfl⟩ := hc.1.ex
    have xk := ix_nI (show k < 2 ^ 31 by omega)
    try simp only [xk] at hR
    have a1 : ix (1 : Int32) = 1 := by decide
    have a2 : ix (2 : Int32) = 2 := by decide
    rcases hc.2 with ⟨rfl, hv⟩ | ⟨rfl, hv⟩
    · rw [a1, show 10 + 4 * k + 1 = 11 + 4 * k by omega] at hR
      refine tX8_set ⟨fun h1 => ⟨fun h2 => ⟨fun h3 => ⟨fun h4 => ⟨fun h5 => ⟨fun h6 => ⟨fun h7 => ⟨?_, ?_, ?_⟩, fun h8 => (absurd hc (fun hc => by simp (disch := omega) only [m0, m3, ne_eq, not_true_eq_false, Rg, tlt, tle, teq, tnI, ts1, tl0, tl1, tl2, tl3, tl4, tl5, tl6, tl7, tl8, tl9, tl10, tl11, tl12, tl13, tl14, tl15, tl16, tl24, tl30, tl33, tl60, tl84, tl96, tl99, tl100, tl200, tlm1] at h1 h2 h3 h4 h5 h6 h8 hc <;> omega))⟩, fun h9 => (absurd hc (fun hc => by simp (disch := omega) only [m0, m3, ne_eq, not_true_eq_false, Rg, tlt, tle, teq, tnI, ts1, tl0, tl1, tl2, tl3, tl4, tl5, tl6, tl7, tl8, tl9, tl10, tl11, tl12, tl13, tl14, tl15, tl16, tl24, tl30, tl33, tl60, tl84, tl96, tl99, tl100, tl200, tlm1] at h1 h2 h3 h4 h5 h9 hc <;> omega))⟩, fun h10 => ⟨fun h11 => ⟨fun h12 => ⟨?_, ?_, ?_⟩, fun h13 => (absurd hc (fun hc => by simp (disch := omega) only [m0, m3, ne_eq, not_true_eq_false, Rg, tlt, tle, teq, tnI, ts1, tl0, tl1, tl2, tl3, tl4, tl5, tl6, tl7, tl8, tl9, tl10, tl11, tl12, tl13, tl14, tl15, tl16, tl24, tl30, tl33, tl60, tl84, tl96, tl99, tl100, tl200, tlm1] at h1 h2 h3 h4 h10 h11 h13 hc <;> omega))⟩, fun h14 => (absurd hc (fun hc => by simp (disch := omega) only [m0, m3, ne_eq, not_true_eq_false, Rg, tlt, tle, teq, tnI, ts1, tl0, tl1, tl2, tl3, tl4, tl5, tl6, tl7, tl8, tl9, tl10, tl11, tl12, tl13, tl14, tl15, tl16, tl24, tl30, tl33, tl60, tl84, tl96, tl99, tl100, tl200, tlm1] at h1 h2 h3 h4 h10 h14 hc <;> omega))⟩⟩, fun h15 => (absurd hc (fun hc => by simp (disch := omega) only [m0, m3, ne_eq, not_true_eq_false, Rg, tlt, tle, teq, tnI, ts1, tl0, tl1, tl2, tl3, tl4, tl5, tl6, tl7, tl8, tl9, tl10, tl11, tl12, tl13, tl14, tl15, tl16, tl24, tl30, tl33, tl60, tl84, tl96, tl99, tl100, tl200, tlm1] at h1 h2 h3 h15 hc <;> omega))⟩, fun h16 => (absurd hc (fun hc => by simp (disch := omega) only [m0, m3, ne_eq, not_true_eq_false, Rg, tlt, tle, teq, tnI, ts1, tl0, tl1, tl2, tl3, tl4, tl5, tl6, tl7, tl8, tl9, tl10, tl11, tl12, tl13, tl14, tl15, tl16, tl24, tl30, tl33, tl60, tl84, tl96, tl99, tl100, tl200, tlm1] at h1 h2 h16 hc <;> omega))⟩, fun h17 => (absurd hc (fun hc => by simp (disch := omega) only [m0, m3, ne_eq, not_true_eq_false, Rg, tlt, tle, teq, tnI, ts1, tl0, tl1, tl2, tl3, tl4, tl5, tl6, tl7, tl8, tl9, tl10, tl11, tl12, tl13, tl14, tl15, tl16, tl24, tl30, tl33, tl60, tl84, tl96, tl99, tl100, tl200, tlm1] at h1 h17 hc <;> omega))⟩, fun h18 => (absurd hc (fun hc => by simp (disch := omega) only [m0, m3, ne_eq, not_true_eq_false, Rg, tlt, tle, teq, tnI, ts1, tl0, tl1, tl2, tl3, tl4, tl5, tl6, tl7, tl8, tl9, tl10, tl11, tl12, tl13, tl14, tl15, tl16, tl24, tl30, tl33, tl60, tl84, tl96, tl99, tl100, tl200, tlm1] at h18 hc <;> omega))⟩
      all_goals first | exact absurd rfl (by assumption : ¬ (1 : Int32) = 1) | exact v1 (by omega) | skip
      all_goals rw [e1 (by omega)]
      all_goals exact hR _ ((Ag.rf _ _).ua (by decide) _) (um_s _ _ _ _)
    · have no : ¬ (2 : Int32) = 1 := by decide
      rw [a2, show 10 + 4 * k + 2 = 12 + 4 * k by omega] at hR
      refine tX8_set ⟨fun h1 => ⟨fun h2 => ⟨fun h3 => ⟨fun h4 => ⟨fun h5 => ⟨fun h6 => ⟨fun h7 => ⟨?_, ?_, ?_⟩, fun h8 => (absurd hc (fun hc => by simp (disch := omega) only [m0, m3, ne_eq, not_true_eq_false, Rg, tlt, tle, teq, tnI, ts1, tl0, tl1, tl2, tl3, tl4, tl5, tl6, tl7, tl8, tl9, tl10, tl11, tl12, tl13, tl14, tl15, tl16, tl24, tl30, tl33, tl60, tl84, tl96, tl99, tl100, tl200, tlm1] at h1 h2 h3 h4 h5 h6 h8 hc <;> omega))⟩, fun h9 => (absurd hc (fun hc => by simp (disch := omega) only [m0, m3, ne_eq, not_true_eq_false, Rg, tlt, tle, teq, tnI, ts1, tl0, tl1, tl2, tl3, tl4, tl5, tl6, tl7, tl8, tl9, tl10, tl11, tl12, tl13, tl14, tl15, tl16, tl24, tl30, tl33, tl60, tl84, tl96, tl99, tl100, tl200, tlm1] at h1 h2 h3 h4 h5 h9 hc <;> omega))⟩, fun h10 => ⟨fun h11 => ⟨fun h12 => ⟨?_, ?_, ?_⟩, fun h13 => (absurd hc (fun hc => by simp (disch := omega) only [m0, m3, ne_eq, not_true_eq_false, Rg, tlt, tle, teq, tnI, ts1, tl0, tl1, tl2, tl3, tl4, tl5, tl6, tl7, tl8, tl9, tl10, tl11, tl12, tl13, tl14, tl15, tl16, tl24, tl30, tl33, tl60, tl84, tl96, tl99, tl100, tl200, tlm1] at h1 h2 h3 h4 h10 h11 h13 hc <;> omega))⟩, fun h14 => (absurd hc (fun hc => by simp (disch := omega) only [m0, m3, ne_eq, not_true_eq_false, Rg, tlt, tle, teq, tnI, ts1, tl0, tl1, tl2, tl3, tl4, tl5, tl6, tl7, tl8, tl9, tl10, tl11, tl12, tl13, tl14, tl15, tl16, tl24, tl30, tl33, tl60, tl84, tl96, tl99, tl100, tl200, tlm1] at h1 h2 h3 h4 h10 h14 hc <;> omega))⟩⟩, fun h15 => (absurd hc (fun hc => by simp (disch := omega) only [m0, m3, ne_eq, not_true_eq_false, Rg, tlt, tle, teq, tnI, ts1, tl0, tl1, tl2, tl3, tl4, tl5, tl6, tl7, tl8, tl9, tl10, tl11, tl12, tl13, tl14, tl15, tl16, tl24, tl30, tl33, tl60, tl84, tl96, tl99, tl100, tl200, tlm1] at h1 h2 h3 h15 hc <;> omega))⟩, fun h16 => (absurd hc (fun hc => by simp (disch := omega) only [m0, m3, ne_eq, not_true_eq_false, Rg, tlt, tle, teq, tnI, ts1, tl0, tl1, tl2, tl3, tl4, tl5, tl6, tl7, tl8, tl9, tl10, tl11, tl12, tl13, tl14, tl15, tl16, tl24, tl30, tl33, tl60, tl84, tl96, tl99, tl100, tl200, tlm1] at h1 h2 h16 hc <;> omega))⟩, fun h17 => (absurd hc (fun hc => by simp (disch := omega) only [m0, m3, ne_eq, not_true_eq_false, Rg, tlt, tle, teq, tnI, ts1, tl0, tl1, tl2, tl3, tl4, tl5, tl6, tl7, tl8, tl9, tl10, tl11, tl12, tl13, tl14, tl15, tl16, tl24, tl30, tl33, tl60, tl84, tl96, tl99, tl100, tl200, tlm1] at h1 h17 hc <;> omega))⟩, fun h18 => (absurd hc (fun hc => by simp (disch := omega) only [m0, m3, ne_eq, not_true_eq_false, Rg, tlt, tle, teq, tnI, ts1, tl0, tl1, tl2, tl3, tl4, tl5, tl6, tl7, tl8, tl9, tl10, tl11, tl12, tl13, tl14, tl15, tl16, tl24, tl30, tl33, tl60, tl84, tl96, tl99, tl100, tl200, tlm1] at h18 hc <;> omega))⟩
      all_goals first | exact absurd (by assumption : (2 : Int32) = 1) no | exact v2 (by omega) | skip
      all_goals rw [e2 (by omega)]
      all_goals exact hR _ ((Ag.rf _ _).ua (by decide) _) (um_s _ _ _ _)
  · simp only [if_neg hc] at hR
    exact tX8_set ⟨fun h1 => ⟨fun h2 => ⟨fun h3 => ⟨fun h4 => ⟨fun h5 => ⟨fun h6 => ⟨fun h7 => ⟨((hc (by simp (disch := omega) only [m0, m3, ne_eq, not_true_eq_false, Rg, tlt, tle, teq, tnI, ts1, tl0, tl1, tl2, tl3, tl4, tl5, tl6, tl7, tl8, tl9, tl10, tl11, tl12, tl13, tl14, tl15, tl16, tl24, tl30, tl33, tl60, tl84, tl96, tl99, tl100, tl200, tlm1] at h1 h2 h3 h4 h5 h6 h7 ⊢ <;> omega)).elim), ((hc (by simp (disch := omega) only [m0, m3, ne_eq, not_true_eq_false, Rg, tlt, tle, teq, tnI, ts1, tl0, tl1, tl2, tl3, tl4, tl5, tl6, tl7, tl8, tl9, tl10, tl11, tl12, tl13, tl14, tl15, tl16, tl24, tl30, tl33, tl60, tl84, tl96, tl99, tl100, tl200, tlm1] at h1 h2 h3 h4 h5 h6 h7 ⊢ <;> omega)).elim), ((hc (by simp (disch := omega) only [m0, m3, ne_eq, not_true_eq_false, Rg, tlt, tle, teq, tnI, ts1, tl0, tl1, tl2, tl3, tl4, tl5, tl6, tl7, tl8, tl9, tl10, tl11, tl12, tl13, tl14, tl15, tl16, tl24, tl30, tl33, tl60, tl84, tl96, tl99, tl100, tl200, tlm1] at h1 h2 h3 h4 h5 h6 h7 ⊢ <;> omega)).elim)⟩, fun h8 => (hR M (Ag.rf _ _) rfl)⟩, fun h9 => (hR M (Ag.rf _ _) rfl)⟩, fun h10 => ⟨fun h11 => ⟨fun h12 => ⟨((hc (by simp (disch := omega) only [m0, m3, ne_eq, not_true_eq_false, Rg, tlt, tle, teq, tnI, ts1, tl0, tl1, tl2, tl3, tl4, tl5, tl6, tl7, tl8, tl9, tl10, tl11, tl12, tl13, tl14, tl15, tl16, tl24, tl30, tl33, tl60, tl84, tl96, tl99, tl100, tl200, tlm1] at h1 h2 h3 h4 h10 h11 h12 ⊢ <;> omega)).elim), ((hc (by simp (disch := omega) only [m0, m3, ne_eq, not_true_eq_false, Rg, tlt, tle, teq, tnI, ts1, tl0, tl1, tl2, tl3, tl4, tl5, tl6, tl7, tl8, tl9, tl10, tl11, tl12, tl13, tl14, tl15, tl16, tl24, tl30, tl33, tl60, tl84, tl96, tl99, tl100, tl200, tlm1] at h1 h2 h3 h4 h10 h11 h12 ⊢ <;> omega)).elim), ((hc (by simp (disch := omega) only [m0, m3, ne_eq, not_true_eq_false, Rg, tlt, tle, teq, tnI, ts1, tl0, tl1, tl2, tl3, tl4, tl5, tl6, tl7, tl8, tl9, tl10, tl11, tl12, tl13, tl14, tl15, tl16, tl24, tl30, tl33, tl60, tl84, tl96, tl99, tl100, tl200, tlm1] at h1 h2 h3 h4 h10 h11 h12 ⊢ <;> omega)).elim)⟩, fun h13 => (hR M (Ag.rf _ _) rfl)⟩, fun h14 => (hR M (Ag.rf _ _) rfl)⟩⟩, fun h15 => (hR M (Ag.rf _ _) rfl)⟩, fun h16 => (hR M (Ag.rf _ _) rfl)⟩, fun h17 => (hR M (Ag.rf _ _) rfl)⟩, fun h18 => (hR M (Ag.rf _ _) rfl)⟩
def anSlides (s : Nat → Int32) (w : Int32) : Int32 := if Rg (nw s) w then s (44 + 3 * ix w) else (-1000000001)
def nxSlides (s : Nat → Int32) (w : Int32) : Nat → Int32 := if Rg (nw s) w then upd s (44 + 3 * ix w) (if s (44 + 3 * ix w) = 1 then 0 else 1) else s
theorem X_slides {w : Int32} (hD : 8 ≤ D) (hRel : Rel M) (hR : ∀ M', Ag (scX ++ ldC 30) M M' → LR M' 30 (nxSlides (M 101) w) → R (some (.int (anSlides (M 101) w))) M') : Tr l G D mX7_slides [.ref (G.1 0), .int w] M R := by
  obtain ⟨d, rfl⟩ := dE (show 4 ≤ D by omega)
  have hL := hRel.1.1.1
  have hI := hRel.2.1.1
  have n1 : M 30 1 = nI (np (M 101)) := hL.1.1.trans hI.1.1
  have n6 : M 30 6 = nI (nw (M 101)) := hL.1.2.1.trans hI.2.1.1
  have hp := hI.1.2
  have hw := hI.2.1.2
  have hW := hI.2.1
  unfold anSlides nxSlides at hR
  by_cases hc : Rg (nw (M 101)) w
  · simp only [if_pos hc] at hR
    obtain ⟨w, hhw, rfl⟩ := hc.ex
    have xw := ix_nI (show w < 2 ^ 31 by omega)
    try simp only [xw] at hR
    have h01 := (hI.2.2.2.2 w hhw).2.2
    have es : M 30 10 = stS (M 101) := hL.1.2.2.1
    have eb : bt (stS (M 101)) w = decide (sd (M 101) w = 1) := by unfold stS; rw [bt_bs _ _ _ (by omega), decide_eq_true hhw, Bool.true_and]
    refine tX7_slides ⟨fun h1 => (absurd hc (fun hc => by simp (disch := omega) only [n1, n6, ne_eq, not_true_eq_false, Rg, tlt, tle, teq, tnI, ts1, tl0, tl1, tl2, tl3, tl4, tl5, tl6, tl7, tl8, tl9, tl10, tl11, tl12, tl13, tl14, tl15, tl16, tl24, tl30, tl33, tl60, tl84, tl96, tl99, tl100, tl200, tlm1] at h1 hc <;> omega)), fun h2 => ⟨fun h3 => (absurd hc (fun hc => by simp (disch := omega) only [n1, n6, ne_eq, not_true_eq_false, Rg, tlt, tle, teq, tnI, ts1, tl0, tl1, tl2, tl3, tl4, tl5, tl6, tl7, tl8, tl9, tl10, tl11, tl12, tl13, tl14, tl15, tl16, tl24, tl30, tl33, tl60, tl84, tl96, tl99, tl100, tl200, tlm1] at h2 h3 hc <;> omega)), fun h4 => ⟨fun h5 => ?_, fun h6 => ?_⟩⟩⟩
    · rw [es, has0 _ (by omega), eb, decide_eq_true_eq] at h5
      have e0 : sd (M 101) w = 0 := h01.resolve_right h5
      have hR' := hR (um M 30 10 (M 30 10 ^^^ ((1 : Int32) <<< (nI w &&& 31)))) ((Ag.rf _ _).ua (by decide) _) (LR_st hW hL hhw (v := if M 101 (44 + 3 * w) = 1 then 0 else 1) (by rw [if_neg h5]; exact ⟨fun _ => h5, fun _ => rfl⟩))
      rw [show M 101 (44 + 3 * w) = 0 from e0] at hR'
      exact hR'
    · rw [es, has0 _ (by omega), eb, decide_eq_true_eq, Classical.not_not] at h6
      have hR' := hR (um M 30 10 (M 30 10 ^^^ ((1 : Int32) <<< (nI w &&& 31)))) ((Ag.rf _ _).ua (by decide) _) (LR_st hW hL hhw (v := if M 101 (44 + 3 * w) = 1 then 0 else 1) (by rw [if_pos h6]; exact ⟨fun q => absurd q (by decide), fun q => absurd h6 q⟩))
      rw [show M 101 (44 + 3 * w) = 1 from h6] at hR'
      exact hR'
  · simp only [if_neg hc] at hR
    exact tX7_slides ⟨fun h1 => (hR M (Ag.rf _ _) hL), fun h2 => ⟨fun h3 => (hR M (Ag.rf _ _) hL), fun h4 => ⟨fun h5 => ((hc (by simp (disch := omega) only [n1, n6, ne_eq, not_true_eq_false, Rg, tlt, tle, teq, tnI, ts1, tl0, tl1, tl2, tl3, tl4, tl5, tl6, tl7, tl8, tl9, tl10, tl11, tl12, tl13, tl14, tl15, tl16, tl24, tl30, tl33, tl60, tl84, tl96, tl99, tl100, tl200, tlm1] at h2 h4 h5 ⊢ <;> omega)).elim), fun h6 => ((hc (by simp (disch := omega) only [n1, n6, ne_eq, not_true_eq_false, Rg, tlt, tle, teq, tnI, ts1, tl0, tl1, tl2, tl3, tl4, tl5, tl6, tl7, tl8, tl9, tl10, tl11, tl12, tl13, tl14, tl15, tl16, tl24, tl30, tl33, tl60, tl84, tl96, tl99, tl100, tl200, tlm1] at h2 h4 h6 ⊢ <;> omega)).elim)⟩⟩⟩
theorem M_slides {w : Int32} (hD : 8 ≤ D) (hIS : IS M) (hR : ∀ M', Ag scY M M' → M' 101 = nxSlides (M 101) w → R (some (.int (anSlides (M 101) w))) M') : Tr l G D mX8_slides [.ref (G.1 100), .int w] M R := by
  obtain ⟨d, rfl⟩ := dE (show 4 ≤ D by omega)
  have hI := hIS.1.1
  have m0 : M 101 0 = nI (np (M 101)) := hI.1.1
  have m3 : M 101 3 = nI (nw (M 101)) := hI.2.1.1
  have hp := hI.1.2
  have hw := hI.2.1.2
  have hW := hI.2.1
  unfold anSlides nxSlides at hR
  by_cases hc : Rg (nw (M 101)) w
  · simp only [if_pos hc] at hR
    obtain ⟨w, hhw, rfl⟩ := hc.ex
    have xw := ix_nI (show w < 2 ^ 31 by omega)
    try simp only [xw] at hR
    have g2 := f2 (show w < 14 by omega)
    refine tX8_slides ⟨fun h1 => ⟨fun h2 => ⟨?_, fun h3 => ⟨?_, ?_, ?_⟩, fun h4 => ⟨?_, ?_, ?_⟩⟩, fun h5 => (absurd hc (fun hc => by simp (disch := omega) only [m0, m3, ne_eq, not_true_eq_false, Rg, tlt, tle, teq, tnI, ts1, tl0, tl1, tl2, tl3, tl4, tl5, tl6, tl7, tl8, tl9, tl10, tl11, tl12, tl13, tl14, tl15, tl16, tl24, tl30, tl33, tl60, tl84, tl96, tl99, tl100, tl200, tlm1] at h1 h5 hc <;> omega))⟩, fun h6 => (absurd hc (fun hc => by simp (disch := omega) only [m0, m3, ne_eq, not_true_eq_false, Rg, tlt, tle, teq, tnI, ts1, tl0, tl1, tl2, tl3, tl4, tl5, tl6, tl7, tl8, tl9, tl10, tl11, tl12, tl13, tl14, tl15, tl16, tl24, tl30, tl33, tl60, tl84, tl96, tl99, tl100, tl200, tlm1] at h6 hc <;> omega))⟩
    all_goals first | exact vw2 (by omega) | skip
    · rw [g2] at h3 ⊢
      rw [if_pos h3] at hR
      exact hR _ ((Ag.rf _ _).ua (by decide) _) (um_s _ _ _ _)
    · rw [g2] at h4 ⊢
      rw [if_neg h4] at hR
      exact hR _ ((Ag.rf _ _).ua (by decide) _) (um_s _ _ _ _)
  · simp only [if_neg hc] at hR
    exact tX8_slides ⟨fun h1 => ⟨fun h2 => ⟨((hc (by simp (disch := omega) only [m0, m3, ne_eq, not_true_eq_false, Rg, tlt, tle, teq, tnI, ts1, tl0, tl1, tl2, tl3, tl4, tl5, tl6, tl7, tl8, tl9, tl10, tl11, tl12, tl13, tl14, tl15, tl16, tl24, tl30, tl33, tl60, tl84, tl96, tl99, tl100, tl200, tlm1] at h1 h2 ⊢ <;> omega)).elim), fun h3 => ⟨((hc (by simp (disch := omega) only [m0, m3, ne_eq, not_true_eq_false, Rg, tlt, tle, teq, tnI, ts1, tl0, tl1, tl2, tl3, tl4, tl5, tl6, tl7, tl8, tl9, tl10, tl11, tl12, tl13, tl14, tl15, tl16, tl24, tl30, tl33, tl60, tl84, tl96, tl99, tl100, tl200, tlm1] at h1 h2 h3 ⊢ <;> omega)).elim), ((hc (by simp (disch := omega) only [m0, m3, ne_eq, not_true_eq_false, Rg, tlt, tle, teq, tnI, ts1, tl0, tl1, tl2, tl3, tl4, tl5, tl6, tl7, tl8, tl9, tl10, tl11, tl12, tl13, tl14, tl15, tl16, tl24, tl30, tl33, tl60, tl84, tl96, tl99, tl100, tl200, tlm1] at h1 h2 h3 ⊢ <;> omega)).elim), ((hc (by simp (disch := omega) only [m0, m3, ne_eq, not_true_eq_false, Rg, tlt, tle, teq, tnI, ts1, tl0, tl1, tl2, tl3, tl4, tl5, tl6, tl7, tl8, tl9, tl10, tl11, tl12, tl13, tl14, tl15, tl16, tl24, tl30, tl33, tl60, tl84, tl96, tl99, tl100, tl200, tlm1] at h1 h2 h3 ⊢ <;> omega)).elim)⟩, fun h4 => ⟨((hc (by simp (disch := omega) only [m0, m3, ne_eq, not_true_eq_false, Rg, tlt, tle, teq, tnI, ts1, tl0, tl1, tl2, tl3, tl4, tl5, tl6, tl7, tl8, tl9, tl10, tl11, tl12, tl13, tl14, tl15, tl16, tl24, tl30, tl33, tl60, tl84, tl96, tl99, tl100, tl200, tlm1] at h1 h2 h4 ⊢ <;> omega)).elim), ((hc (by simp (disch := omega) only [m0, m3, ne_eq, not_true_eq_false, Rg, tlt, tle, teq, tnI, ts1, tl0, tl1, tl2, tl3, tl4, tl5, tl6, tl7, tl8, tl9, tl10, tl11, tl12, tl13, tl14, tl15, tl16, tl24, tl30, tl33, tl60, tl84, tl96, tl99, tl100, tl200, tlm1] at h1 h2 h4 ⊢ <;> omega)).elim), ((hc (by simp (disch := omega) only [m0, m3, ne_eq, not_true_eq_false, Rg, tlt, tle, teq, tnI, ts1, tl0, tl1, tl2, tl3, tl4, tl5, tl6, tl7, tl8, tl9, tl10, tl11, tl12, tl13, tl14, tl15, tl16, tl24, tl30, tl33, tl60, tl84, tl96, tl99, tl100, tl200, tlm1] at h1 h2 h4 ⊢ <;> omega)).elim)⟩⟩, fun h5 => (hR M (Ag.rf _ _) rfl)⟩, fun h6 => (hR M (Ag.rf _ _) rfl)⟩
end
