-- looking ahead: a land laid aside, days passed over it
theorem back_is {M M2 M3 : Mem} (h : ∀ j, j < 84 → M2 113 j = M 101 j) (hk : ∀ j, 84 ≤ j → M2 101 j = M 101 j) (e : M3 101 = (fun j => if j < 84 then M2 113 j else M2 101 j)) : M3 101 = M 101 := by
  rw [e]
  funext j
  by_cases q : j < 84
  · rw [if_pos q]; exact h j q
  · rw [if_neg q]; exact hk j (by omega)
theorem ixs4 {q : Nat} (h : 4 ≤ q) (h2 : q < 2 ^ 30) : nI q - 4 = nI (q - 4) := sub_nI (b := 4) h h2
theorem inv_kd {s : Nat → Int32} (h : Inv s) {i : Nat} (hi : i < 8) {v : Int32} (hv : ∃ a, a < 6 ∧ v = nI a) : Inv (upd s (10 + 4 * i) v) := by
  have lo : ∀ j, j ≠ 10 + 4 * i → upd s (10 + 4 * i) v j = s j := fun j hj => pk_un hj
  have en : np (upd s (10 + 4 * i) v) = np s := by show ix (upd s (10 + 4 * i) v 0) = ix (s 0); rw [lo 0 (by omega)]
  have ew : nw (upd s (10 + 4 * i) v) = nw s := by show ix (upd s (10 + 4 * i) v 3) = ix (s 3); rw [lo 3 (by omega)]
  refine ⟨⟨by rw [en, lo 0 (by omega)]; exact h.1.1, by rw [en]; exact h.1.2⟩, ⟨by rw [ew, lo 3 (by omega)]; exact h.2.1.1, by rw [ew]; exact h.2.1.2⟩, ti_cong (lo 1 (by omega)) (fun j hj => lo j (by omega)) h.2.2.1, fun j hj => ?_, fun w hw => ?_⟩
  · rw [en] at hj
    rw [ew]
    have c1 : pl (upd s (10 + 4 * i) v) j = pl s j := lo _ (by omega)
    have c2 : ag (upd s (10 + 4 * i) v) j = ag s j := lo _ (by omega)
    have c3 : sk (upd s (10 + 4 * i) v) j = sk s j := lo _ (by omega)
    rw [c1, c2, c3]
    refine ⟨?_, (h.2.2.2.1 j hj).2⟩
    by_cases e : j = i
    · rw [e]
      show ∃ a, a < 6 ∧ upd s (10 + 4 * i) v (10 + 4 * i) = nI a
      rw [pk_us]
      exact hv
    · rw [show kd (upd s (10 + 4 * i) v) j = kd s j from lo _ (by omega)]
      exact (h.2.2.2.1 j hj).1
  · rw [ew] at hw
    have := h.2.1.2
    have c0 : fr (upd s (10 + 4 * i) v) w = fr s w := lo _ (by omega)
    have c1 : tt (upd s (10 + 4 * i) v) w = tt s w := lo _ (by omega)
    have c2 : sd (upd s (10 + 4 * i) v) w = sd s w := lo _ (by omega)
    rw [c0, c1, c2]
    exact h.2.2.2.2 w hw
theorem ldc_w {b j : Nat} (hb : IsLd b) (h6 : j ≠ 6) (hj : j < 30) : j ∉ ldC b := by
  unfold IsLd at hb
  simp only [ldC, List.mem_cons, List.not_mem_nil, or_false]
  omega
theorem XS.to {M M' : Mem} {b c : Nat} {s s' : Nat → Int32} (hb : IsLd b) (h : XS M c s) (hA : Ag (ldC b) M M') (h1 : s' 1 = s 1) (htx : ∀ j, 84 ≤ j → s' j = s j) (hL : LR M' b s') (hI : Inv s') : XS M' b s' := by
  have ent : nt s' = nt s := by show ix (s' 1) = ix (s 1); rw [h1]
  have hT := h.2.1.2.2.1
  have h14 := hT.2.1
  refine ⟨hL, hI, fun t ht => ?_⟩
  rw [ent] at ht
  have hw := LW_cong (s' := s') (fun j hj _ => htx j (by omega)) ((hT.2.2 t ht).2.2.1) (h.2.2 t ht)
  unfold LW at hw ⊢
  rw [hA 3 (ldc_w hb (by decide) (by decide)), hA 4 (ldc_w hb (by decide) (by decide)), hA 5 (ldc_w hb (by decide) (by decide)), hA (7 + t) (ldc_w hb (by omega) (by omega))]
  exact hw
section
variable {l : Launch} {G : GT} {D : Nat} {M : Mem} {R : Option Value → Mem → Prop} {b : Nat} {s : Nat → Int32}
theorem scx40 : ∀ k, k ∈ ldC 40 → k ∈ scX := by decide
theorem ld_off {b c : Nat} {M M' : Mem} (hb : IsLd b) (hc : IsLd c) (hne : b ≠ c) (hL : LR M c s) (hA : Ag (ldC b) M M') : LR M' c s := hL.of (fun j hj => hA _ (ldc_c hb hc hne hj))
def anBehind (s : Nat → Int32) (n q : Int32) : Int32 := if Rg 101 n ∧ Rg (4 + np s) q then (if ix q = 3 then pcI (brS (dysS (ix n) s) (mk (np (dysS (ix n) s)))) else if ix q < 3 then dysS (ix n) s (6 + ix q) else dysS (ix n) s (11 + 4 * (ix q - 4))) else (-1000000001)
theorem X_behind {n q : Int32} (hD : 32 ≤ D) (hRel : Rel M) (hR : ∀ M', Ag scX M M' → R (some (.int (anBehind (M 101) n q))) M') : Tr l G D mX7_behind [.ref (G.1 0), .int n, .int q] M R := by
  obtain ⟨d, rfl⟩ := dE (show 4 ≤ D by omega)
  have hL := hRel.1.1.1
  have hI := hRel.2.1.1
  have n1 : M 30 1 = nI (np (M 101)) := hL.1.1.trans hI.1.1
  have n6 : M 30 6 = nI (nw (M 101)) := hL.1.2.1.trans hI.2.1.1
  have b1n := Int32.toInt_lt n
  have b2n := Int32.le_toInt n
  have b1q := Int32.toInt_lt q
  have b2q := Int32.le_toInt q
  have hp := hI.1.2
  have hw := hI.2.1.2
  have hW := hI.2.1
  unfold anBehind at hR
  by_cases hc : Rg 101 n ∧ Rg (4 + np (M 101)) q
  · simp only [if_pos hc] at hR
    obtain ⟨n, hn, rfl⟩ := hc.1.ex
    have xn := ix_nI (show n < 2 ^ 31 by omega)
    obtain ⟨q, hq, rfl⟩ := hc.2.ex
    have xq := ix_nI (show q < 2 ^ 31 by omega)
    try simp only [xn, xq] at hR
    have hvn : ∀ x, 4 ≤ x → x < 2 ^ 30 → nI x - 4 = nI (x - 4) := fun x h1 h2 => ixs4 h1 h2
    have go : Tr l G (d + 3) mX1_take [.ref (G.1 40), .ref (G.1 30)] M (kV fun M' => At l G (d + 4) mX7_behind 43 [some (.ref (G.1 0)), some (.int (nI n)), some (.int (nI q))] [] M' R) := by
      refine sX1_take (Or.inr (Or.inl rfl)) ld30 (by decide) (by omega) hL (fun M1 hA1 hL1 => kV_i (bX7_behind_43 ?_))
      have hX1 := hRel.xs.to (b := 40) (Or.inr (Or.inl rfl)) hA1 rfl (fun _ _ => rfl) hL1 hI
      refine sX1_passDays (Or.inr (Or.inl rfl)) (by omega) (by omega) hX1 (fun M2 hA2 hX2 => kV_i (bX7_behind_51 ?_))
      have hA : Ag scX M M2 := (hA1.tr hA2).sub scx40
      have hR2 := hR M2 hA
      have hL2 := hX2.1
      have e13 : M2 40 13 = dysS n (M 101) 6 := hL2.1.2.2.2.2.2.1
      have e14 : M2 40 14 = dysS n (M 101) 7 := hL2.1.2.2.2.2.2.2.1
      have e15 : M2 40 15 = dysS n (M 101) 8 := hL2.1.2.2.2.2.2.2.2.1
      have n0 : nI q = 0 ↔ q = 0 := nI_eq (b := 0) (by omega) (by decide)
      have n1' : nI q = 1 ↔ q = 1 := nI_eq (b := 1) (by omega) (by decide)
      have n2 : nI q = 2 ↔ q = 2 := nI_eq (b := 2) (by omega) (by decide)
      have n3 : nI q = 3 ↔ q = 3 := nI_eq (b := 3) (by omega) (by decide)
      refine ⟨fun h => ?_, fun h => ?_, fun h => ?_, fun h => ?_, fun h0 h1 h2 h3 => ?_⟩
      · rw [n0] at h; subst h; rw [e13]; exact hR2
      · rw [n1'] at h; subst h; rw [e14]; exact hR2
      · rw [n2] at h; subst h; rw [e15]; exact hR2
      · rw [n3] at h; subst h
        exact sX1_waysBorne (Or.inr (Or.inl rfl)) (by omega) hX2.2.1 hL2 (kI_i (bX7_behind_115 hR2))
      · rw [n0] at h0; rw [n1'] at h1; rw [n2] at h2; rw [n3] at h3
        rw [ixs4 (by omega) (by omega), ix_nI (by omega)]
        refine ⟨vpn (by omega) (by decide), ?_⟩
        rw [if_neg h3, if_neg (by omega)] at hR2
        rw [show M2 42 (q - 4) = pl (dysS n (M 101)) (q - 4) from hL2.2.2.1 (q - 4) (by omega)]
        exact hR2
    refine tX7_behind ⟨fun h1 => (absurd hc (fun hc => by simp (disch := omega) only [n1, n6, ne_eq, not_true_eq_false, Rg, tlt, tle, teq, tnI, ts1, tl0, tl1, tl2, tl3, tl4, tl5, tl6, tl7, tl8, tl9, tl10, tl11, tl12, tl13, tl14, tl15, tl16, tl24, tl30, tl33, tl60, tl84, tl96, tl99, tl100, tl200, tlm1, t44] at h1 hc <;> omega)), fun h2 => ⟨fun h3 => (absurd hc (fun hc => by simp (disch := omega) only [n1, n6, ne_eq, not_true_eq_false, Rg, tlt, tle, teq, tnI, ts1, tl0, tl1, tl2, tl3, tl4, tl5, tl6, tl7, tl8, tl9, tl10, tl11, tl12, tl13, tl14, tl15, tl16, tl24, tl30, tl33, tl60, tl84, tl96, tl99, tl100, tl200, tlm1, t44] at h2 h3 hc <;> omega)), fun h4 => ⟨fun h5 => (absurd hc (fun hc => by simp (disch := omega) only [n1, n6, ne_eq, not_true_eq_false, Rg, tlt, tle, teq, tnI, ts1, tl0, tl1, tl2, tl3, tl4, tl5, tl6, tl7, tl8, tl9, tl10, tl11, tl12, tl13, tl14, tl15, tl16, tl24, tl30, tl33, tl60, tl84, tl96, tl99, tl100, tl200, tlm1, t44] at h2 h4 h5 hc <;> omega)), fun h6 => ⟨fun h7 => ?_, fun h8 => ⟨fun h9 => (absurd hc (fun hc => by simp (disch := omega) only [n1, n6, ne_eq, not_true_eq_false, Rg, tlt, tle, teq, tnI, ts1, tl0, tl1, tl2, tl3, tl4, tl5, tl6, tl7, tl8, tl9, tl10, tl11, tl12, tl13, tl14, tl15, tl16, tl24, tl30, tl33, tl60, tl84, tl96, tl99, tl100, tl200, tlm1, t44] at h2 h4 h6 h8 h9 hc <;> omega)), fun h10 => ⟨fun h11 => (absurd hc (fun hc => by simp (disch := omega) only [n1, n6, ne_eq, not_true_eq_false, Rg, tlt, tle, teq, tnI, ts1, tl0, tl1, tl2, tl3, tl4, tl5, tl6, tl7, tl8, tl9, tl10, tl11, tl12, tl13, tl14, tl15, tl16, tl24, tl30, tl33, tl60, tl84, tl96, tl99, tl100, tl200, tlm1, t44] at h2 h4 h6 h8 h10 h11 hc <;> omega)), fun h12 => ?_⟩⟩⟩⟩⟩⟩
    all_goals exact go
  · simp only [if_neg hc] at hR
    exact tX7_behind ⟨fun h1 => (hR M (Ag.rf _ _)), fun h2 => ⟨fun h3 => (hR M (Ag.rf _ _)), fun h4 => ⟨fun h5 => (hR M (Ag.rf _ _)), fun h6 => ⟨fun h7 => ((hc (by simp (disch := omega) only [n1, n6, ne_eq, not_true_eq_false, Rg, tlt, tle, teq, tnI, ts1, tl0, tl1, tl2, tl3, tl4, tl5, tl6, tl7, tl8, tl9, tl10, tl11, tl12, tl13, tl14, tl15, tl16, tl24, tl30, tl33, tl60, tl84, tl96, tl99, tl100, tl200, tlm1, t44] at h2 h4 h6 h7 ⊢ <;> omega)).elim), fun h8 => ⟨fun h9 => (hR M (Ag.rf _ _)), fun h10 => ⟨fun h11 => (hR M (Ag.rf _ _)), fun h12 => ((hc (by simp (disch := omega) only [n1, n6, ne_eq, not_true_eq_false, Rg, tlt, tle, teq, tnI, ts1, tl0, tl1, tl2, tl3, tl4, tl5, tl6, tl7, tl8, tl9, tl10, tl11, tl12, tl13, tl14, tl15, tl16, tl24, tl30, tl33, tl60, tl84, tl96, tl99, tl100, tl200, tlm1, t44] at h2 h4 h6 h8 h10 h12 ⊢ <;> omega)).elim)⟩⟩⟩⟩⟩⟩
theorem M_behind {n q : Int32} (hD : 36 ≤ D) (hIS : IS M) (hR : ∀ M', Ag scY M M' → M' 101 = M 101 → R (some (.int (anBehind (M 101) n q))) M') : Tr l G D mX8_behind [.ref (G.1 100), .int n, .int q] M R := by
  obtain ⟨d, rfl⟩ := dE (show 4 ≤ D by omega)
  have hI := hIS.1.1
  have m0 : M 101 0 = nI (np (M 101)) := hI.1.1
  have m3 : M 101 3 = nI (nw (M 101)) := hI.2.1.1
  have b1n := Int32.toInt_lt n
  have b2n := Int32.le_toInt n
  have b1q := Int32.toInt_lt q
  have b2q := Int32.le_toInt q
  have hp := hI.1.2
  have hw := hI.2.1.2
  have hW := hI.2.1
  unfold anBehind at hR
  by_cases hc : Rg 101 n ∧ Rg (4 + np (M 101)) q
  · simp only [if_pos hc] at hR
    obtain ⟨n, hn, rfl⟩ := hc.1.ex
    have xn := ix_nI (show n < 2 ^ 31 by omega)
    obtain ⟨q, hq, rfl⟩ := hc.2.ex
    have xq := ix_nI (show q < 2 ^ 31 by omega)
    try simp only [xn, xq] at hR
    have go : Tr l G (d + 3) mX8_laysBy [.ref (G.1 100)] M (kV fun M' => At l G (d + 4) mX8_behind 38 [some (.ref (G.1 100)), some (.int (nI n)), some (.int (nI q)), none] [] M' R) := by
      refine sX8_laysBy (by omega) (fun M1 hA1 h1 => kV_i (bX8_behind_38 ?_))
      have e1x : ∀ k, k < 8 → ix (10 + 4 * nI k + 1) = 11 + 4 * k := fun k hk => e1 hk
      have e1 := hA1 101 (by decide)
      refine sX8_goesOnMany (by omega) (by omega) (by rw [e1]; exact hI.1) (by rw [e1]; exact hI.2.1) (by rw [e1]; exact hI.2.2.1) (fun M2 hA2 h2 => kV_i (bX8_behind_43 ?_))
      rw [e1] at h2
      have hA : Ag scY M M2 := (hA1.sub (by decide)).tr (hA2.sub (by decide))
      have b1 : ∀ j, j < 84 → M2 113 j = M 101 j := fun j hj => by rw [hA2 113 (by decide)]; exact h1 j hj
      have b2 : ∀ j, 84 ≤ j → M2 101 j = M 101 j := fun j hj => by rw [h2]; exact (dys_keep hI.1 hI.2.1 n).2.2.2.2.2.1 j hj
      have back : ∀ (v : Int32), v = anBehind (M 101) (nI n) (nI q) → Tr l G (d + 3) mX8_laysBack [.ref (G.1 100)] M2 (kV fun M' => At l G (d + 4) mX8_behind 85 [none, none, none, some (.int v)] [] M' R) := by
        intro v ev
        refine sX8_laysBack (by omega) (fun M3 hA3 h3 => kV_i (bX8_behind_85 ?_))
        have hR3 := hR M3 (hA.tr (hA3.sub (by decide))) (back_is b1 b2 h3)
        rw [ev]
        unfold anBehind
        rw [if_pos hc, xn, xq]
        exact hR3
      have cq : ix (nI q) = q := xq
      have i2 := inv_dys hI n
      have up : ∀ v, (if q = 3 then pcI (brS (dysS n (M 101)) (mk (np (dysS n (M 101))))) else if q < 3 then dysS n (M 101) (6 + q) else dysS n (M 101) (11 + 4 * (q - 4))) = v → v = anBehind (M 101) (nI n) (nI q) := by
        intro v e
        unfold anBehind
        rw [if_pos hc, xn, xq]
        exact e.symm
      refine ⟨fun h => ⟨fun h3 => ?_, fun h3 => ?_⟩, fun h => ?_⟩
      · have e3 : q = 3 := (nI_eq (b := 3) (by omega) (by decide)).mp h3
        obtain ⟨m, hm, e⟩ := br_all i2
        rw [← h2] at e
        refine sX8_known (by omega) (by rw [h2]; exact i2.1) ⟨by rw [e, ix_nI (by omega)]; exact hm, by rw [e, ix_nI (by omega)]⟩ (kI_i (bX8_behind_69 ?_))
        refine back _ (up _ ?_)
        rw [if_pos e3, h2]
      · have e3 : ¬ q = 3 := fun x => h3 ((nI_eq (b := 3) (by omega) (by decide)).mpr x)
        have e4 : 3 ≤ q := (le_nI (a := 3) (by decide) (by omega)).mp h
        rw [ixs4 (by omega) (by omega)]
        refine ⟨v1 (by omega), back _ (up _ ?_)⟩
        rw [if_neg e3, if_neg (by omega), e1x _ (by omega), h2]
      · have e4 : ¬ 3 ≤ q := fun x => h ((le_nI (a := 3) (by decide) (by omega)).mpr x)
        have e6 : (6 : Int32) + nI q = nI (6 + q) := by
          have : ∀ q, q < 3 → (6 : Int32) + nI q = nI (6 + q) := by decide
          exact this q (by omega)
        rw [e6]
        refine ⟨vpn (by omega) (by decide), back _ (up _ ?_)⟩
        rw [if_neg (by omega), if_pos (by omega), ix_nI (by omega), h2]
    clear hR
    refine tX8_behind ⟨fun h1 => ⟨fun h2 => ⟨fun h3 => (absurd hc (fun hc => by simp (disch := omega) only [m0, m3, ne_eq, not_true_eq_false, Rg, tlt, tle, teq, tnI, ts1, tl0, tl1, tl2, tl3, tl4, tl5, tl6, tl7, tl8, tl9, tl10, tl11, tl12, tl13, tl14, tl15, tl16, tl24, tl30, tl33, tl60, tl84, tl96, tl99, tl100, tl200, tlm1, t44] at h1 h2 h3 hc <;> omega)), fun h4 => ⟨fun h5 => ?_, fun h6 => ⟨fun h7 => ⟨fun h8 => ?_, fun h9 => (absurd hc (fun hc => by simp (disch := omega) only [m0, m3, ne_eq, not_true_eq_false, Rg, tlt, tle, teq, tnI, ts1, tl0, tl1, tl2, tl3, tl4, tl5, tl6, tl7, tl8, tl9, tl10, tl11, tl12, tl13, tl14, tl15, tl16, tl24, tl30, tl33, tl60, tl84, tl96, tl99, tl100, tl200, tlm1, t44] at h1 h2 h4 h6 h7 h9 hc <;> omega))⟩, fun h10 => (absurd hc (fun hc => by simp (disch := omega) only [m0, m3, ne_eq, not_true_eq_false, Rg, tlt, tle, teq, tnI, ts1, tl0, tl1, tl2, tl3, tl4, tl5, tl6, tl7, tl8, tl9, tl10, tl11, tl12, tl13, tl14, tl15, tl16, tl24, tl30, tl33, tl60, tl84, tl96, tl99, tl100, tl200, tlm1, t44] at h1 h2 h4 h6 h10 hc <;> omega))⟩⟩⟩, fun h11 => (absurd hc (fun hc => by simp (disch := omega) only [m0, m3, ne_eq, not_true_eq_false, Rg, tlt, tle, teq, tnI, ts1, tl0, tl1, tl2, tl3, tl4, tl5, tl6, tl7, tl8, tl9, tl10, tl11, tl12, tl13, tl14, tl15, tl16, tl24, tl30, tl33, tl60, tl84, tl96, tl99, tl100, tl200, tlm1, t44] at h1 h11 hc <;> omega))⟩, fun h12 => (absurd hc (fun hc => by simp (disch := omega) only [m0, m3, ne_eq, not_true_eq_false, Rg, tlt, tle, teq, tnI, ts1, tl0, tl1, tl2, tl3, tl4, tl5, tl6, tl7, tl8, tl9, tl10, tl11, tl12, tl13, tl14, tl15, tl16, tl24, tl30, tl33, tl60, tl84, tl96, tl99, tl100, tl200, tlm1, t44] at h12 hc <;> omega))⟩
    all_goals exact go
  · simp only [if_neg hc] at hR
    exact tX8_behind ⟨fun h1 => ⟨fun h2 => ⟨fun h3 => ((hR M (Ag.rf _ _) rfl)), fun h4 => ⟨fun h5 => ((hc (by simp (disch := omega) only [m0, m3, ne_eq, not_true_eq_false, Rg, tlt, tle, teq, tnI, ts1, tl0, tl1, tl2, tl3, tl4, tl5, tl6, tl7, tl8, tl9, tl10, tl11, tl12, tl13, tl14, tl15, tl16, tl24, tl30, tl33, tl60, tl84, tl96, tl99, tl100, tl200, tlm1, t44] at h1 h2 h4 h5 ⊢ <;> omega)).elim), fun h6 => ⟨fun h7 => ⟨fun h8 => ((hc (by simp (disch := omega) only [m0, m3, ne_eq, not_true_eq_false, Rg, tlt, tle, teq, tnI, ts1, tl0, tl1, tl2, tl3, tl4, tl5, tl6, tl7, tl8, tl9, tl10, tl11, tl12, tl13, tl14, tl15, tl16, tl24, tl30, tl33, tl60, tl84, tl96, tl99, tl100, tl200, tlm1, t44] at h1 h2 h4 h6 h7 h8 ⊢ <;> omega)).elim), fun h9 => ((hR M (Ag.rf _ _) rfl))⟩, fun h10 => ((hR M (Ag.rf _ _) rfl))⟩⟩⟩, fun h11 => ((hR M (Ag.rf _ _) rfl))⟩, fun h12 => ((hR M (Ag.rf _ _) rfl))⟩
end
