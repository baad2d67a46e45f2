-- scar
section
variable {l : Launch} {G : GT} {D : Nat} {M : Mem} {R : Option Value → Mem → Prop} {b : Nat} {s : Nat → Int32}
def anScar (s : Nat → Int32) (k w : Int32) : Int32 := if Rg (np s) k ∧ Rg (nw s) w then (if bt (s (13 + 4 * ix k)) (ix w) = true then pcI (s (13 + 4 * ix k) ^^^ ((1 : Int32) <<< (w &&& 31))) else (-1000000002)) else (-1000000001)
def nxScar (s : Nat → Int32) (k w : Int32) : Nat → Int32 := if Rg (np s) k ∧ Rg (nw s) w then (if bt (s (13 + 4 * ix k)) (ix w) = true then upd s (13 + 4 * ix k) (s (13 + 4 * ix k) ^^^ ((1 : Int32) <<< (w &&& 31))) else s) else s
theorem X_scar {k w : Int32} (hD : 12 ≤ D) (hRel : Rel M) (hR : ∀ M', Ag (scX ++ ldC 30) M M' → LR M' 30 (nxScar (M 101) k w) → R (some (.int (anScar (M 101) k w))) M') : Tr l G D mX7_scar [.ref (G.1 0), .int k, .int w] M R := by
  obtain ⟨d, rfl⟩ := dE (show 4 ≤ D by omega)
  have hL := hRel.1.1.1
  have hI := hRel.2.1.1
  have n1 : M 30 1 = nI (np (M 101)) := hL.1.1.trans hI.1.1
  have n6 : M 30 6 = nI (nw (M 101)) := hL.1.2.1.trans hI.2.1.1
  have hp := hI.1.2
  have hw := hI.2.1.2
  have hW := hI.2.1
  unfold anScar nxScar at hR
  by_cases hc : Rg (np (M 101)) k ∧ Rg (nw (M 101)) w
  · simp only [if_pos hc] at hR
    obtain ⟨k, hk, rfl⟩ := hc.1.ex
    have xk := ix_nI (show k < 2 ^ 31 by omega)
    obtain ⟨w, hhw, rfl⟩ := hc.2.ex
    have xw := ix_nI (show w < 2 ^ 31 by omega)
    try simp only [xk, xw] at hR
    have l1 : M 31 k = kd (M 101) k := hL.2.1 k (by omega)
    have l2 : M 32 k = pl (M 101) k := hL.2.2.1 k (by omega)
    have l3 : M 33 k = ag (M 101) k := hL.2.2.2.1 k (by omega)
    have l4 : M 34 k = sk (M 101) k := hL.2.2.2.2.1 k (by omega)
    obtain ⟨⟨ak, hak, eak⟩, ⟨ap, hap, eap⟩, ⟨aa, haa, eaa⟩, hsk⟩ := hI.2.2.2.1 k hk
    
    have hb14 := xor_small (x := sk (M 101) k) hhw hw hsk
    obtain ⟨m, hm, em⟩ := hb14
    have epc : pcI (sk (M 101) k ^^^ ((1 : Int32) <<< (nI w &&& 31))) = nI (pop 14 m) := by rw [em]; show nI (pop 14 (ix (nI m))) = _; rw [ix_nI (by omega)]
    
    by_cases h : bt (sk (M 101) k) w = true
    · simp only [if_pos h] at hR
      refine tX7_scar ⟨fun h1 => (absurd hc (fun hc => by simp (disch := omega) only [n1, n6, ne_eq, not_true_eq_false, Rg, tlt, tle, teq, tnI, ts1, tl0, tl1, tl2, tl3, tl4, tl5, tl6, tl7, tl8, tl9, tl10, tl11, tl12, tl13, tl14, tl15, tl16, tl24, tl30, tl33, tl60, tl84, tl96, tl99, tl100, tl200, tlm1] at h1 hc <;> omega)), fun h2 => ⟨fun h3 => (absurd hc (fun hc => by simp (disch := omega) only [n1, n6, ne_eq, not_true_eq_false, Rg, tlt, tle, teq, tnI, ts1, tl0, tl1, tl2, tl3, tl4, tl5, tl6, tl7, tl8, tl9, tl10, tl11, tl12, tl13, tl14, tl15, tl16, tl24, tl30, tl33, tl60, tl84, tl96, tl99, tl100, tl200, tlm1] at h2 h3 hc <;> omega)), fun h4 => ⟨fun h5 => (absurd hc (fun hc => by simp (disch := omega) only [n1, n6, ne_eq, not_true_eq_false, Rg, tlt, tle, teq, tnI, ts1, tl0, tl1, tl2, tl3, tl4, tl5, tl6, tl7, tl8, tl9, tl10, tl11, tl12, tl13, tl14, tl15, tl16, tl24, tl30, tl33, tl60, tl84, tl96, tl99, tl100, tl200, tlm1] at h2 h4 h5 hc <;> omega)), fun h6 => ⟨fun h7 => (absurd hc (fun hc => by simp (disch := omega) only [n1, n6, ne_eq, not_true_eq_false, Rg, tlt, tle, teq, tnI, ts1, tl0, tl1, tl2, tl3, tl4, tl5, tl6, tl7, tl8, tl9, tl10, tl11, tl12, tl13, tl14, tl15, tl16, tl24, tl30, tl33, tl60, tl84, tl96, tl99, tl100, tl200, tlm1] at h2 h4 h6 h7 hc <;> omega)), fun h8 => ⟨(vpn (by omega) (by decide)), fun h9 => ?_, fun h10 => ⟨(vpn (by omega) (by decide)), (vpn (by omega) (by decide)), fun M9 eM9 => ⟨(vpn (by omega) (by decide)), ?_⟩⟩⟩⟩⟩⟩⟩
      all_goals first | (rw [xk, l4, has0 _ (by omega)] at h9; exact absurd h h9) | (rw [xk, l4, has0 _ (by omega)] at h10; exact absurd h h10) | skip
      · have e9 : M9 34 k = nI m := by rw [eM9, xk, l4, bt_off (by omega) h]; simp only [um_s, pk_us]; exact em
        rw [xk, e9]
        refine sJ6_bitCount (by omega) hm (kI_i (bX7_scar_67 ?_))
        have hR' := hR M9 (by rw [eM9]; exact (Ag.rf _ _).ua (by decide) _) (by rw [eM9, xk, l4, bt_off (by omega) h]; exact LR_sk hW hL (by omega) _)
        rw [show pcI (M 101 (13 + 4 * k) ^^^ ((1 : Int32) <<< (nI w &&& 31))) = nI (pop 14 m) from epc] at hR'
        exact hR'
    · simp only [if_neg h] at hR
      refine tX7_scar ⟨fun h1 => (absurd hc (fun hc => by simp (disch := omega) only [n1, n6, ne_eq, not_true_eq_false, Rg, tlt, tle, teq, tnI, ts1, tl0, tl1, tl2, tl3, tl4, tl5, tl6, tl7, tl8, tl9, tl10, tl11, tl12, tl13, tl14, tl15, tl16, tl24, tl30, tl33, tl60, tl84, tl96, tl99, tl100, tl200, tlm1] at h1 hc <;> omega)), fun h2 => ⟨fun h3 => (absurd hc (fun hc => by simp (disch := omega) only [n1, n6, ne_eq, not_true_eq_false, Rg, tlt, tle, teq, tnI, ts1, tl0, tl1, tl2, tl3, tl4, tl5, tl6, tl7, tl8, tl9, tl10, tl11, tl12, tl13, tl14, tl15, tl16, tl24, tl30, tl33, tl60, tl84, tl96, tl99, tl100, tl200, tlm1] at h2 h3 hc <;> omega)), fun h4 => ⟨fun h5 => (absurd hc (fun hc => by simp (disch := omega) only [n1, n6, ne_eq, not_true_eq_false, Rg, tlt, tle, teq, tnI, ts1, tl0, tl1, tl2, tl3, tl4, tl5, tl6, tl7, tl8, tl9, tl10, tl11, tl12, tl13, tl14, tl15, tl16, tl24, tl30, tl33, tl60, tl84, tl96, tl99, tl100, tl200, tlm1] at h2 h4 h5 hc <;> omega)), fun h6 => ⟨fun h7 => (absurd hc (fun hc => by simp (disch := omega) only [n1, n6, ne_eq, not_true_eq_false, Rg, tlt, tle, teq, tnI, ts1, tl0, tl1, tl2, tl3, tl4, tl5, tl6, tl7, tl8, tl9, tl10, tl11, tl12, tl13, tl14, tl15, tl16, tl24, tl30, tl33, tl60, tl84, tl96, tl99, tl100, tl200, tlm1] at h2 h4 h6 h7 hc <;> omega)), fun h8 => ⟨(vpn (by omega) (by decide)), fun h9 => ?_, fun h10 => ⟨(vpn (by omega) (by decide)), (vpn (by omega) (by decide)), fun M9 eM9 => ⟨(vpn (by omega) (by decide)), ?_⟩⟩⟩⟩⟩⟩⟩
      all_goals first | (rw [xk, l4, has0 _ (by omega)] at h9; exact absurd h h9) | (rw [xk, l4, has0 _ (by omega)] at h10; exact absurd h h10) | skip
      exact hR M (Ag.rf _ _) hL
  · simp only [if_neg hc] at hR
    exact tX7_scar ⟨fun h1 => (hR M (Ag.rf _ _) hL), fun h2 => ⟨fun h3 => (hR M (Ag.rf _ _) hL), fun h4 => ⟨fun h5 => (hR M (Ag.rf _ _) hL), fun h6 => ⟨fun h7 => (hR M (Ag.rf _ _) hL), fun h8 => ⟨((hc (by simp (disch := omega) only [n1, n6, ne_eq, not_true_eq_false, Rg, tlt, tle, teq, tnI, ts1, tl0, tl1, tl2, tl3, tl4, tl5, tl6, tl7, tl8, tl9, tl10, tl11, tl12, tl13, tl14, tl15, tl16, tl24, tl30, tl33, tl60, tl84, tl96, tl99, tl100, tl200, tlm1] at h2 h4 h6 h8 ⊢ <;> omega)).elim), fun h9 => ((hc (by simp (disch := omega) only [n1, n6, ne_eq, not_true_eq_false, Rg, tlt, tle, teq, tnI, ts1, tl0, tl1, tl2, tl3, tl4, tl5, tl6, tl7, tl8, tl9, tl10, tl11, tl12, tl13, tl14, tl15, tl16, tl24, tl30, tl33, tl60, tl84, tl96, tl99, tl100, tl200, tlm1] at h2 h4 h6 h8 h9 ⊢ <;> omega)).elim), fun h10 => ⟨((hc (by simp (disch := omega) only [n1, n6, ne_eq, not_true_eq_false, Rg, tlt, tle, teq, tnI, ts1, tl0, tl1, tl2, tl3, tl4, tl5, tl6, tl7, tl8, tl9, tl10, tl11, tl12, tl13, tl14, tl15, tl16, tl24, tl30, tl33, tl60, tl84, tl96, tl99, tl100, tl200, tlm1] at h2 h4 h6 h8 h10 ⊢ <;> omega)).elim), ((hc (by simp (disch := omega) only [n1, n6, ne_eq, not_true_eq_false, Rg, tlt, tle, teq, tnI, ts1, tl0, tl1, tl2, tl3, tl4, tl5, tl6, tl7, tl8, tl9, tl10, tl11, tl12, tl13, tl14, tl15, tl16, tl24, tl30, tl33, tl60, tl84, tl96, tl99, tl100, tl200, tlm1] at h2 h4 h6 h8 h10 ⊢ <;> omega)).elim), fun M9 eM9 => ⟨((hc (by simp (disch := omega) only [n1, n6, ne_eq, not_true_eq_false, Rg, tlt, tle, teq, tnI, ts1, tl0, tl1, tl2, tl3, tl4, tl5, tl6, tl7, tl8, tl9, tl10, tl11, tl12, tl13, tl14, tl15, tl16, tl24, tl30, tl33, tl60, tl84, tl96, tl99, tl100, tl200, tlm1] at h2 h4 h6 h8 h10 ⊢ <;> omega)).elim), ((hc (by simp (disch := omega) only [n1, n6, ne_eq, not_true_eq_false, Rg, tlt, tle, teq, tnI, ts1, tl0, tl1, tl2, tl3, tl4, tl5, tl6, tl7, tl8, tl9, tl10, tl11, tl12, tl13, tl14, tl15, tl16, tl24, tl30, tl33, tl60, tl84, tl96, tl99, tl100, tl200, tlm1] at h2 h4 h6 h8 h10 ⊢ <;> omega)).elim)⟩⟩⟩⟩⟩⟩⟩
theorem M_scar {k w : Int32} (hD : 12 ≤ D) (hIS : IS M) (hR : ∀ M', Ag scY M M' → M' 101 = nxScar (M 101) k w → R (some (.int (anScar (M 101) k w))) M') : Tr l G D mX8_scar [.ref (G.1 100), .int k, .int w] M R := by
  obtain ⟨d, rfl⟩ := dE (show 4 ≤ D by omega)
  have hI := hIS.1.1
  have m0 : M 101 0 = nI (np (M 101)) := hI.1.1
  have m3 : M 101 3 = nI (nw (M 101)) := hI.2.1.1
  have hp := hI.1.2
  have hw := hI.2.1.2
  have hW := hI.2.1
  unfold anScar nxScar at hR
  refine tX8_scar ?_
  obtain ⟨d, rfl⟩ : ∃ e, d = e + 1 := ⟨d - 1, by omega⟩
  by_cases hc : Rg (np (M 101)) k ∧ Rg (nw (M 101)) w
  · simp only [if_pos hc] at hR
    obtain ⟨k, hk, rfl⟩ := hc.1.ex
    have xk := ix_nI (show k < 2 ^ 31 by omega)
    obtain ⟨w, hhw, rfl⟩ := hc.2.ex
    have xw := ix_nI (show w < 2 ^ 31 by omega)
    try simp only [xk, xw] at hR
    obtain ⟨⟨ak, hak, eak⟩, ⟨ap, hap, eap⟩, ⟨aa, haa, eaa⟩, hsk⟩ := hI.2.2.2.1 k hk
    
    have hb14 := xor_small (x := sk (M 101) k) hhw hw hsk
    obtain ⟨m, hm, em⟩ := hb14
    have epc : pcI (sk (M 101) k ^^^ ((1 : Int32) <<< (nI w &&& 31))) = nI (pop 14 m) := by rw [em]; show nI (pop 14 (ix (nI m))) = _; rw [ix_nI (by omega)]
    
    have g3 := e3 (show k < 8 by omega)
    by_cases h : bt (sk (M 101) k) w = true
    · simp only [if_pos h] at hR
      refine tX8_pricks ⟨fun h1 => ⟨fun h2 => ⟨fun h3 => ⟨fun h4 => ⟨(v3 (by omega)), fun h5 => ⟨fun h6 => ?_, fun h7 => ⟨(v3 (by omega)), fun M9 eM9 => ⟨(v3 (by omega)), ?_⟩⟩⟩, fun h8 => ⟨fun h9 => ?_, fun h10 => ⟨(v3 (by omega)), fun M5 eM5 => ⟨(v3 (by omega)), ?_⟩⟩⟩⟩, fun h11 => (absurd hc (fun hc => by simp (disch := omega) only [m0, m3, ne_eq, not_true_eq_false, Rg, tlt, tle, teq, tnI, ts1, tl0, tl1, tl2, tl3, tl4, tl5, tl6, tl7, tl8, tl9, tl10, tl11, tl12, tl13, tl14, tl15, tl16, tl24, tl30, tl33, tl60, tl84, tl96, tl99, tl100, tl200, tlm1] at h1 h2 h3 h11 hc <;> omega))⟩, fun h12 => (absurd hc (fun hc => by simp (disch := omega) only [m0, m3, ne_eq, not_true_eq_false, Rg, tlt, tle, teq, tnI, ts1, tl0, tl1, tl2, tl3, tl4, tl5, tl6, tl7, tl8, tl9, tl10, tl11, tl12, tl13, tl14, tl15, tl16, tl24, tl30, tl33, tl60, tl84, tl96, tl99, tl100, tl200, tlm1] at h1 h2 h12 hc <;> omega))⟩, fun h13 => (absurd hc (fun hc => by simp (disch := omega) only [m0, m3, ne_eq, not_true_eq_false, Rg, tlt, tle, teq, tnI, ts1, tl0, tl1, tl2, tl3, tl4, tl5, tl6, tl7, tl8, tl9, tl10, tl11, tl12, tl13, tl14, tl15, tl16, tl24, tl30, tl33, tl60, tl84, tl96, tl99, tl100, tl200, tlm1] at h1 h13 hc <;> omega))⟩, fun h14 => (absurd hc (fun hc => by simp (disch := omega) only [m0, m3, ne_eq, not_true_eq_false, Rg, tlt, tle, teq, tnI, ts1, tl0, tl1, tl2, tl3, tl4, tl5, tl6, tl7, tl8, tl9, tl10, tl11, tl12, tl13, tl14, tl15, tl16, tl24, tl30, tl33, tl60, tl84, tl96, tl99, tl100, tl200, tlm1] at h14 hc <;> omega))⟩
      all_goals first | (rw [g3, has1 _ (by omega)] at h5; exact absurd h5 h) | (rw [g3, has1 _ (by omega)] at h8; exact absurd h h8) | exact absurd h6 (by decide) | exact absurd rfl h10 | skip
      · have e9 : M9 101 (13 + 4 * k) = nI m := by rw [eM9, g3]; simp only [um_s, pk_us]; exact em
        rw [g3, e9]
        refine sX8_bits (by omega) hm (kI_i (bX8_pricks_61 (kI_i (bX8_scar_7 ?_))))
        have hR' := hR M9 (by rw [eM9]; exact (Ag.rf _ _).ua (by decide) _) (by rw [eM9, g3]; exact um_s _ _ _ _)
        rw [show pcI (M 101 (13 + 4 * k) ^^^ ((1 : Int32) <<< (nI w &&& 31))) = nI (pop 14 m) from epc] at hR'
        exact hR'
    · simp only [if_neg h] at hR
      refine tX8_pricks ⟨fun h1 => ⟨fun h2 => ⟨fun h3 => ⟨fun h4 => ⟨(v3 (by omega)), fun h5 => ⟨fun h6 => ?_, fun h7 => ⟨(v3 (by omega)), fun M9 eM9 => ⟨(v3 (by omega)), ?_⟩⟩⟩, fun h8 => ⟨fun h9 => ?_, fun h10 => ⟨(v3 (by omega)), fun M5 eM5 => ⟨(v3 (by omega)), ?_⟩⟩⟩⟩, fun h11 => (absurd hc (fun hc => by simp (disch := omega) only [m0, m3, ne_eq, not_true_eq_false, Rg, tlt, tle, teq, tnI, ts1, tl0, tl1, tl2, tl3, tl4, tl5, tl6, tl7, tl8, tl9, tl10, tl11, tl12, tl13, tl14, tl15, tl16, tl24, tl30, tl33, tl60, tl84, tl96, tl99, tl100, tl200, tlm1] at h1 h2 h3 h11 hc <;> omega))⟩, fun h12 => (absurd hc (fun hc => by simp (disch := omega) only [m0, m3, ne_eq, not_true_eq_false, Rg, tlt, tle, teq, tnI, ts1, tl0, tl1, tl2, tl3, tl4, tl5, tl6, tl7, tl8, tl9, tl10, tl11, tl12, tl13, tl14, tl15, tl16, tl24, tl30, tl33, tl60, tl84, tl96, tl99, tl100, tl200, tlm1] at h1 h2 h12 hc <;> omega))⟩, fun h13 => (absurd hc (fun hc => by simp (disch := omega) only [m0, m3, ne_eq, not_true_eq_false, Rg, tlt, tle, teq, tnI, ts1, tl0, tl1, tl2, tl3, tl4, tl5, tl6, tl7, tl8, tl9, tl10, tl11, tl12, tl13, tl14, tl15, tl16, tl24, tl30, tl33, tl60, tl84, tl96, tl99, tl100, tl200, tlm1] at h1 h13 hc <;> omega))⟩, fun h14 => (absurd hc (fun hc => by simp (disch := omega) only [m0, m3, ne_eq, not_true_eq_false, Rg, tlt, tle, teq, tnI, ts1, tl0, tl1, tl2, tl3, tl4, tl5, tl6, tl7, tl8, tl9, tl10, tl11, tl12, tl13, tl14, tl15, tl16, tl24, tl30, tl33, tl60, tl84, tl96, tl99, tl100, tl200, tlm1] at h14 hc <;> omega))⟩
      all_goals first | (rw [g3, has1 _ (by omega)] at h5; exact absurd h5 h) | (rw [g3, has1 _ (by omega)] at h8; exact absurd h h8) | exact absurd h6 (by decide) | exact absurd rfl h10 | skip
      exact kI_i (bX8_scar_7 (hR M (Ag.rf _ _) rfl))
  · simp only [if_neg hc] at hR
    exact tX8_pricks ⟨fun h1 => ⟨fun h2 => ⟨fun h3 => ⟨fun h4 => ⟨((hc (by simp (disch := omega) only [m0, m3, ne_eq, not_true_eq_false, Rg, tlt, tle, teq, tnI, ts1, tl0, tl1, tl2, tl3, tl4, tl5, tl6, tl7, tl8, tl9, tl10, tl11, tl12, tl13, tl14, tl15, tl16, tl24, tl30, tl33, tl60, tl84, tl96, tl99, tl100, tl200, tlm1] at h1 h2 h3 h4 ⊢ <;> omega)).elim), fun h5 => ⟨fun h6 => ((hc (by simp (disch := omega) only [m0, m3, ne_eq, not_true_eq_false, Rg, tlt, tle, teq, tnI, ts1, tl0, tl1, tl2, tl3, tl4, tl5, tl6, tl7, tl8, tl9, tl10, tl11, tl12, tl13, tl14, tl15, tl16, tl24, tl30, tl33, tl60, tl84, tl96, tl99, tl100, tl200, tlm1] at h1 h2 h3 h4 h5 h6 ⊢ <;> omega)).elim), fun h7 => ⟨((hc (by simp (disch := omega) only [m0, m3, ne_eq, not_true_eq_false, Rg, tlt, tle, teq, tnI, ts1, tl0, tl1, tl2, tl3, tl4, tl5, tl6, tl7, tl8, tl9, tl10, tl11, tl12, tl13, tl14, tl15, tl16, tl24, tl30, tl33, tl60, tl84, tl96, tl99, tl100, tl200, tlm1] at h1 h2 h3 h4 h5 h7 ⊢ <;> omega)).elim), fun M9 eM9 => ⟨((hc (by simp (disch := omega) only [m0, m3, ne_eq, not_true_eq_false, Rg, tlt, tle, teq, tnI, ts1, tl0, tl1, tl2, tl3, tl4, tl5, tl6, tl7, tl8, tl9, tl10, tl11, tl12, tl13, tl14, tl15, tl16, tl24, tl30, tl33, tl60, tl84, tl96, tl99, tl100, tl200, tlm1] at h1 h2 h3 h4 h5 h7 ⊢ <;> omega)).elim), ((hc (by simp (disch := omega) only [m0, m3, ne_eq, not_true_eq_false, Rg, tlt, tle, teq, tnI, ts1, tl0, tl1, tl2, tl3, tl4, tl5, tl6, tl7, tl8, tl9, tl10, tl11, tl12, tl13, tl14, tl15, tl16, tl24, tl30, tl33, tl60, tl84, tl96, tl99, tl100, tl200, tlm1] at h1 h2 h3 h4 h5 h7 ⊢ <;> omega)).elim)⟩⟩⟩, fun h8 => ⟨fun h9 => ((hc (by simp (disch := omega) only [m0, m3, ne_eq, not_true_eq_false, Rg, tlt, tle, teq, tnI, ts1, tl0, tl1, tl2, tl3, tl4, tl5, tl6, tl7, tl8, tl9, tl10, tl11, tl12, tl13, tl14, tl15, tl16, tl24, tl30, tl33, tl60, tl84, tl96, tl99, tl100, tl200, tlm1] at h1 h2 h3 h4 h8 h9 ⊢ <;> omega)).elim), fun h10 => ⟨((hc (by simp (disch := omega) only [m0, m3, ne_eq, not_true_eq_false, Rg, tlt, tle, teq, tnI, ts1, tl0, tl1, tl2, tl3, tl4, tl5, tl6, tl7, tl8, tl9, tl10, tl11, tl12, tl13, tl14, tl15, tl16, tl24, tl30, tl33, tl60, tl84, tl96, tl99, tl100, tl200, tlm1] at h1 h2 h3 h4 h8 h10 ⊢ <;> omega)).elim), fun M5 eM5 => ⟨((hc (by simp (disch := omega) only [m0, m3, ne_eq, not_true_eq_false, Rg, tlt, tle, teq, tnI, ts1, tl0, tl1, tl2, tl3, tl4, tl5, tl6, tl7, tl8, tl9, tl10, tl11, tl12, tl13, tl14, tl15, tl16, tl24, tl30, tl33, tl60, tl84, tl96, tl99, tl100, tl200, tlm1] at h1 h2 h3 h4 h8 h10 ⊢ <;> omega)).elim), ((hc (by simp (disch := omega) only [m0, m3, ne_eq, not_true_eq_false, Rg, tlt, tle, teq, tnI, ts1, tl0, tl1, tl2, tl3, tl4, tl5, tl6, tl7, tl8, tl9, tl10, tl11, tl12, tl13, tl14, tl15, tl16, tl24, tl30, tl33, tl60, tl84, tl96, tl99, tl100, tl200, tlm1] at h1 h2 h3 h4 h8 h10 ⊢ <;> omega)).elim)⟩⟩⟩⟩, fun h11 => (kI_i (bX8_scar_7 (hR M (Ag.rf _ _) rfl)))⟩, fun h12 => (kI_i (bX8_scar_7 (hR M (Ag.rf _ _) rfl)))⟩, fun h13 => (kI_i (bX8_scar_7 (hR M (Ag.rf _ _) rfl)))⟩, fun h14 => (kI_i (bX8_scar_7 (hR M (Ag.rf _ _) rfl)))⟩
end
