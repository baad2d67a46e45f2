theorem upd_c (f : Nat → Int32) {i j : Nat} (h : i ≠ j) (x y : Int32) : upd (upd f i x) j y = upd (upd f j y) i x := by
  funext a
  by_cases e : a = j
  · subst e; rw [pk_us, pk_un (Ne.symm h), pk_us]
  · rw [pk_un e]
    by_cases e2 : a = i
    · subst e2; rw [pk_us, pk_us]
    · rw [pk_un e2, pk_un e2, pk_un e]
def adS (s : Nat → Int32) (k p a x : Int32) : Nat → Int32 := upd (upd (upd (upd (upd s 0 (s 0 + 1)) (10 + 4 * np s) k) (11 + 4 * np s) p) (12 + 4 * np s) a) (13 + 4 * np s) x
def wyS (s : Nat → Int32) (f t : Int32) : Nat → Int32 := upd (upd (upd (upd s 3 (s 3 + 1)) (42 + 3 * nw s) f) (43 + 3 * nw s) t) (44 + 3 * nw s) 1
def anOne (s : Nat → Int32) (k p a : Int32) : Int32 := if Rg 6 k ∧ Rg 10 p ∧ Rg 100 a then (if np s = 8 then (-1000000003) else s 0) else (-1000000001)
def nxOne (s : Nat → Int32) (k p a : Int32) : Nat → Int32 := if (Rg 6 k ∧ Rg 10 p ∧ Rg 100 a) ∧ np s ≠ 8 then adS s k p a 0 else s
section
variable {l : Launch} {G : GT} {D : Nat} {M : Mem} {R : Option Value → Mem → Prop} {b : Nat} {s : Nat → Int32}
theorem sX1_addOne {k p a x : Int32} (hb : IsLd b) (hD : 4 ≤ D) (hI : Inv s) (hL : LR M b s) (hR : ∀ M', Ag (ldC b) M M' → LR M' b (if np s = 8 then s else adS s k p a x) → R (some (.int (if np s = 8 then (-1000000003) else s 0))) M') : Tr l G D mX1_addOne [.ref (G.1 b), .int k, .int p, .int a, .int x] M R := by
  obtain ⟨d, rfl⟩ := dE hD
  have h8 := hI.1.2
  have e0 := hI.1.1
  have hW := hI.2.1
  have e1 : M b 1 = nI (np s) := hL.1.1.trans e0
  refine tX1_addOne hb ⟨fun h => ?_, fun h => ?_⟩
  · rw [e1, show (8 : Int32) = nI 8 from rfl, lt_nI (by omega) (by omega)] at h
    rw [if_neg (by omega), if_neg (by omega)] at hR
    have hv : vp_in (M b 1) 8 := by rw [e1]; exact vpn h (by decide)
    refine ⟨hv, hv, hv, fun M5 hM5 => ⟨hv, fun M7 hM7 => ?_⟩⟩
    rw [e1, ix_nI (by omega)] at hM5 hM7
    have k1 : Keep s s := Keep.rf s
    have w1 : WI (upd s (10 + 4 * np s) k) := by unfold WI nw; rw [pk_un (by omega)]; exact hW
    have w2 : WI (upd (upd s (10 + 4 * np s) k) (11 + 4 * np s) p) := by unfold WI nw; rw [pk_un (by omega), pk_un (by omega)]; exact hW
    have w3 : WI (upd (upd (upd s (10 + 4 * np s) k) (11 + 4 * np s) p) (12 + 4 * np s) a) := by unfold WI nw; rw [pk_un (by omega), pk_un (by omega), pk_un (by omega)]; exact hW
    have w4 : WI (upd (upd (upd (upd s (10 + 4 * np s) k) (11 + 4 * np s) p) (12 + 4 * np s) a) (13 + 4 * np s) x) := by unfold WI nw; rw [pk_un (by omega), pk_un (by omega), pk_un (by omega), pk_un (by omega)]; exact hW
    have l3 := LR_ag w2 (LR_pl w1 (LR_kd hW hL h k) h p) h a
    rw [← hM5] at l3
    have l4 := LR_sk w3 l3 h x
    have e5 : (um M5 (b + 4) (np s) x) b 1 = s 0 := by
      rw [l4.1.1, pk_un (by omega), pk_un (by omega), pk_un (by omega), pk_un (by omega)]
    have l5 := LR_1 w4 l4 (s 0 + 1)
    rw [hL.1.1, e0, ← e0]
    refine hR M7 ?_ ?_
    · rw [hM7, hM5]
      exact (((((Ag.rf _ M).ua (by simp [ldC]) _).ua (by simp [ldC]) _).ua (by simp [ldC]) _).ua (by simp [ldC]) _).ua (by simp [ldC]) _
    · rw [hM7, e5]
      unfold adS
      rw [upd_c s (by omega), upd_c (upd s (10 + 4 * np s) k) (by omega), upd_c (upd (upd s (10 + 4 * np s) k) (11 + 4 * np s) p) (by omega), upd_c (upd (upd (upd s (10 + 4 * np s) k) (11 + 4 * np s) p) (12 + 4 * np s) a) (by omega)]
      exact l5
  · rw [e1, show (8 : Int32) = nI 8 from rfl, lt_nI (by omega) (by omega)] at h
    have e : np s = 8 := by omega
    rw [if_pos e, if_pos e] at hR
    exact hR M (Ag.rf _ _) hL
theorem LR_way {M M' : Mem} {f t : Nat} (hI : Inv s) (hL : LR M b s) (hf : f < 10) (ht : t < 10) (hne : f ≠ t) (hn : nw s < 14) (h1 : ∀ i, i ≠ 6 → i ≠ 10 → M' b i = M b i) (h6 : M' b 6 = s 3 + 1) (h10 : M' b 10 = M b 10 ||| ((1 : Int32) <<< (nI (nw s) &&& 31))) (hs : ∀ j, 1 ≤ j → j ≤ 4 → M' (b + j) = M (b + j)) (h5 : M' (b + 5) = upd (M (b + 5)) (nw s) (nI f)) (h66 : M' (b + 6) = upd (M (b + 6)) (nw s) (nI t)) (h7 : ∀ p, p < 10 → M' (b + 7) p = if p = f ∨ p = t then M (b + 7) p ||| ((1 : Int32) <<< (nI (nw s) &&& 31)) else M (b + 7) p) (h8 : M' (b + 8) = M (b + 8)) : LR M' b (wyS s (nI f) (nI t)) := by
  obtain ⟨⟨a1, a2, a3, a4, a5, a6, a7, a8, a9, a10, a11⟩, g1, g2, g3, g4, g5, g6, g7, g8⟩ := hL
  have h8p := hI.1.2
  have e3 := hI.2.1.1
  have lo : ∀ j, j < 42 → j ≠ 3 → wyS s (nI f) (nI t) j = s j := by
    intro j hj hj3
    unfold wyS
    rw [pk_un (by omega), pk_un (by omega), pk_un (by omega), pk_un hj3]
  have hi : ∀ j, 84 ≤ j → wyS s (nI f) (nI t) j = s j := by
    intro j hj
    unfold wyS
    rw [pk_un (by omega), pk_un (by omega), pk_un (by omega), pk_un (by omega)]
  have n3 : wyS s (nI f) (nI t) 3 = s 3 + 1 := by
    unfold wyS
    rw [pk_un (by omega), pk_un (by omega), pk_un (by omega), pk_us]
  have enw : nw (wyS s (nI f) (nI t)) = nw s + 1 := by
    show ix (wyS s (nI f) (nI t) 3) = _
    rw [n3, e3, p1, ix_nI (by omega)]
  have efr : ∀ w, w < 14 → fr (wyS s (nI f) (nI t)) w = if w = nw s then nI f else fr s w := by
    intro w hw
    show wyS s (nI f) (nI t) (42 + 3 * w) = _
    unfold wyS
    rw [pk_un (by omega), pk_un (by omega)]
    by_cases e : w = nw s
    · rw [if_pos e, e, pk_us]
    · rw [if_neg e, pk_un (by omega), pk_un (by omega)]
  have ett : ∀ w, w < 14 → tt (wyS s (nI f) (nI t)) w = if w = nw s then nI t else tt s w := by
    intro w hw
    show wyS s (nI f) (nI t) (43 + 3 * w) = _
    unfold wyS
    rw [pk_un (by omega)]
    by_cases e : w = nw s
    · rw [if_pos e, e, pk_us]
    · rw [if_neg e, pk_un (by omega), pk_un (by omega), pk_un (by omega)]
  have esd : ∀ w, w < 14 → sd (wyS s (nI f) (nI t)) w = if w = nw s then 1 else sd s w := by
    intro w hw
    show wyS s (nI f) (nI t) (44 + 3 * w) = _
    unfold wyS
    by_cases e : w = nw s
    · rw [if_pos e, e, pk_us]
    · rw [if_neg e, pk_un (by omega), pk_un (by omega), pk_un (by omega), pk_un (by omega)]
  have ect : ∀ q, ctS (wyS s (nI f) (nI t)) q = ctS s q := ctS_of (lo 1 (by decide) (by decide)) hi
  refine ⟨⟨by rw [h1 1 (by decide) (by decide), lo 0 (by decide) (by decide)]; exact a1, by rw [h6, n3], ?_, by rw [h1 11 (by decide) (by decide), lo 4 (by decide) (by decide)]; exact a4, by rw [h1 12 (by decide) (by decide), lo 5 (by decide) (by decide)]; exact a5, by rw [h1 13 (by decide) (by decide), lo 6 (by decide) (by decide)]; exact a6, by rw [h1 14 (by decide) (by decide), lo 7 (by decide) (by decide)]; exact a7, by rw [h1 15 (by decide) (by decide), lo 8 (by decide) (by decide)]; exact a8, by rw [h1 16 (by decide) (by decide), lo 2 (by decide) (by decide)]; exact a9, by rw [h1 17 (by decide) (by decide), lo 9 (by decide) (by decide)]; exact a10, by rw [h1 18 (by decide) (by decide), lo 1 (by decide) (by decide)]; exact a11⟩, fun k hk => ?_, fun k hk => ?_, fun k hk => ?_, fun k hk => ?_, fun w hw => ?_, fun w hw => ?_, fun p hp => ?_, fun q hq => by rw [h8, ect]; exact g8 q hq⟩
  · rw [h10, a3]
    unfold stS
    rw [enw]
    simp only [bs]
    rw [if_pos (decide_eq_true (by rw [esd _ hn, if_pos rfl]))]
    congr 1
    exact bs_cong _ (fun w hw => by rw [esd w (by omega), if_neg (by omega)])
  · rw [hs 1 (by decide) (by decide)]
    exact (g1 k hk).trans (lo (10 + 4 * k) (by omega) (by omega)).symm
  · rw [hs 2 (by decide) (by decide)]
    exact (g2 k hk).trans (lo (11 + 4 * k) (by omega) (by omega)).symm
  · rw [hs 3 (by decide) (by decide)]
    exact (g3 k hk).trans (lo (12 + 4 * k) (by omega) (by omega)).symm
  · rw [hs 4 (by decide) (by decide)]
    exact (g4 k hk).trans (lo (13 + 4 * k) (by omega) (by omega)).symm
  · rw [h5, efr w hw]
    by_cases e : w = nw s
    · rw [if_pos e, e, pk_us]
    · rw [if_neg e, pk_un e]; exact g5 w hw
  · rw [h66, ett w hw]
    by_cases e : w = nw s
    · rw [if_pos e, e, pk_us]
    · rw [if_neg e, pk_un e]; exact g6 w hw
  · rw [h7 p hp, g7 p hp]
    unfold eIn
    rw [enw]
    simp only [bs]
    have ec : bs (tch (wyS s (nI f) (nI t)) (nI p)) (nw s) = bs (tch s (nI p)) (nw s) := bs_cong _ (fun w hw => by unfold tch; rw [efr w (by omega), ett w (by omega), if_neg (by omega), if_neg (by omega)])
    have et : tch (wyS s (nI f) (nI t)) (nI p) (nw s) = true ↔ (p = f ∨ p = t) := by
      unfold tch
      rw [efr _ hn, ett _ hn, if_pos rfl, if_pos rfl, Bool.or_eq_true, decide_eq_true_eq, decide_eq_true_eq, nI_eq (by omega) (by omega), nI_eq (by omega) (by omega)]
      omega
    rw [ec]
    by_cases h : p = f ∨ p = t
    · rw [if_pos h, if_pos (et.mpr h)]
    · rw [if_neg h, if_neg (fun q => h (et.mp q))]
theorem X_one {k p a : Int32} (hD : 8 ≤ D) (hRel : Rel M) (hR : ∀ M', Ag (ldC 30) M M' → LR M' 30 (nxOne (M 101) k p a) → R (some (.int (anOne (M 101) k p a))) M') : Tr l G D mX7_one [.ref (G.1 0), .int k, .int p, .int a] M R := by
  obtain ⟨d, rfl⟩ := dE (show 4 ≤ D by omega)
  have hbad : ¬ (Rg 6 k ∧ Rg 10 p ∧ Rg 100 a) → R (some (.int (-1000000001))) M := by
    intro h
    have := hR M (Ag.rf _ _) (by unfold nxOne; rw [if_neg (fun q => h q.1)]; exact hRel.1.1.1)
    unfold anOne at this
    rw [if_neg h] at this
    exact this
  refine tX7_one (⟨fun h1 => (hbad (fun hc => by simp (disch := omega) only [Rg, tlt, tle, teq, tnI, ts1, tl0, tl1, tl2, tl3, tl4, tl5, tl6, tl7, tl8, tl9, tl10, tl11, tl12, tl13, tl14, tl15, tl16, tl24, tl30, tl33, tl60, tl84, tl96, tl99, tl100, tl200, tlm1] at h1 hc; omega)), fun h2 => ⟨fun h3 => (hbad (fun hc => by simp (disch := omega) only [Rg, tlt, tle, teq, tnI, ts1, tl0, tl1, tl2, tl3, tl4, tl5, tl6, tl7, tl8, tl9, tl10, tl11, tl12, tl13, tl14, tl15, tl16, tl24, tl30, tl33, tl60, tl84, tl96, tl99, tl100, tl200, tlm1] at h2 h3 hc; omega)), fun h4 => ⟨fun h5 => (hbad (fun hc => by simp (disch := omega) only [Rg, tlt, tle, teq, tnI, ts1, tl0, tl1, tl2, tl3, tl4, tl5, tl6, tl7, tl8, tl9, tl10, tl11, tl12, tl13, tl14, tl15, tl16, tl24, tl30, tl33, tl60, tl84, tl96, tl99, tl100, tl200, tlm1] at h2 h4 h5 hc; omega)), fun h6 => ⟨fun h7 => (hbad (fun hc => by simp (disch := omega) only [Rg, tlt, tle, teq, tnI, ts1, tl0, tl1, tl2, tl3, tl4, tl5, tl6, tl7, tl8, tl9, tl10, tl11, tl12, tl13, tl14, tl15, tl16, tl24, tl30, tl33, tl60, tl84, tl96, tl99, tl100, tl200, tlm1] at h2 h4 h6 h7 hc; omega)), fun h8 => ⟨fun h9 => (hbad (fun hc => by simp (disch := omega) only [Rg, tlt, tle, teq, tnI, ts1, tl0, tl1, tl2, tl3, tl4, tl5, tl6, tl7, tl8, tl9, tl10, tl11, tl12, tl13, tl14, tl15, tl16, tl24, tl30, tl33, tl60, tl84, tl96, tl99, tl100, tl200, tlm1] at h2 h4 h6 h8 h9 hc; omega)), fun h10 => ⟨fun h11 => ?_, fun h12 => (hbad (fun hc => by simp (disch := omega) only [Rg, tlt, tle, teq, tnI, ts1, tl0, tl1, tl2, tl3, tl4, tl5, tl6, tl7, tl8, tl9, tl10, tl11, tl12, tl13, tl14, tl15, tl16, tl24, tl30, tl33, tl60, tl84, tl96, tl99, tl100, tl200, tlm1] at h2 h4 h6 h8 h10 h12 hc; omega))⟩⟩⟩⟩⟩⟩)
  have hc : Rg 6 k ∧ Rg 10 p ∧ Rg 100 a := by simp (disch := omega) only [Rg, tlt, tle, teq, tnI, ts1, tl0, tl1, tl2, tl3, tl4, tl5, tl6, tl7, tl8, tl9, tl10, tl11, tl12, tl13, tl14, tl15, tl16, tl24, tl30, tl33, tl60, tl84, tl96, tl99, tl100, tl200, tlm1] at h2 h4 h6 h8 h10 h11 ⊢; omega
  refine sX1_addOne ld30 (by omega) hRel.2.1.1 hRel.1.1.1 (fun M' hA hL => kI_i (bX7_one_38 ?_))
  have := hR M' hA (by unfold nxOne; by_cases h : np (M 101) = 8; (rw [if_neg (fun q => q.2 h)]; rw [if_pos h] at hL; exact hL); (rw [if_pos ⟨hc, h⟩]; rw [if_neg h] at hL; exact hL))
  unfold anOne at this
  rw [if_pos hc] at this
  exact this
theorem M_one {k p a : Int32} (hD : 8 ≤ D) (hIS : IS M) (hR : ∀ M', Ag scY M M' → M' 101 = nxOne (M 101) k p a → R (some (.int (anOne (M 101) k p a))) M') : Tr l G D mX8_one [.ref (G.1 100), .int k, .int p, .int a] M R := by
  obtain ⟨d, rfl⟩ := dE (show 4 ≤ D by omega)
  have hbad : ¬ (Rg 6 k ∧ Rg 10 p ∧ Rg 100 a) → R (some (.int (-1000000001))) M := by
    intro h
    have := hR M (Ag.rf _ _) (by unfold nxOne; rw [if_neg (fun q => h q.1)])
    unfold anOne at this
    rw [if_neg h] at this
    exact this
  have hp := hIS.1.1.1.2
  have e0 := hIS.1.1.1.1
  refine tX8_one (⟨fun h1 => ⟨fun h2 => ⟨fun h3 => ⟨fun h4 => ⟨fun h5 => ⟨fun h6 => ⟨fun h7 => ?_, fun h8 => ⟨?_, fun M3 eM3 => ⟨?_, ?_, fun M6 eM6 => ⟨?_, ?_⟩⟩⟩⟩, fun h9 => (hbad (fun hc => by simp (disch := omega) only [Rg, tlt, tle, teq, tnI, ts1, tl0, tl1, tl2, tl3, tl4, tl5, tl6, tl7, tl8, tl9, tl10, tl11, tl12, tl13, tl14, tl15, tl16, tl24, tl30, tl33, tl60, tl84, tl96, tl99, tl100, tl200, tlm1] at h1 h2 h3 h4 h5 h9 hc; omega))⟩, fun h10 => (hbad (fun hc => by simp (disch := omega) only [Rg, tlt, tle, teq, tnI, ts1, tl0, tl1, tl2, tl3, tl4, tl5, tl6, tl7, tl8, tl9, tl10, tl11, tl12, tl13, tl14, tl15, tl16, tl24, tl30, tl33, tl60, tl84, tl96, tl99, tl100, tl200, tlm1] at h1 h2 h3 h4 h10 hc; omega))⟩, fun h11 => (hbad (fun hc => by simp (disch := omega) only [Rg, tlt, tle, teq, tnI, ts1, tl0, tl1, tl2, tl3, tl4, tl5, tl6, tl7, tl8, tl9, tl10, tl11, tl12, tl13, tl14, tl15, tl16, tl24, tl30, tl33, tl60, tl84, tl96, tl99, tl100, tl200, tlm1] at h1 h2 h3 h11 hc; omega))⟩, fun h12 => (hbad (fun hc => by simp (disch := omega) only [Rg, tlt, tle, teq, tnI, ts1, tl0, tl1, tl2, tl3, tl4, tl5, tl6, tl7, tl8, tl9, tl10, tl11, tl12, tl13, tl14, tl15, tl16, tl24, tl30, tl33, tl60, tl84, tl96, tl99, tl100, tl200, tlm1] at h1 h2 h12 hc; omega))⟩, fun h13 => (hbad (fun hc => by simp (disch := omega) only [Rg, tlt, tle, teq, tnI, ts1, tl0, tl1, tl2, tl3, tl4, tl5, tl6, tl7, tl8, tl9, tl10, tl11, tl12, tl13, tl14, tl15, tl16, tl24, tl30, tl33, tl60, tl84, tl96, tl99, tl100, tl200, tlm1] at h1 h13 hc; omega))⟩, fun h14 => (hbad (fun hc => by simp (disch := omega) only [Rg, tlt, tle, teq, tnI, ts1, tl0, tl1, tl2, tl3, tl4, tl5, tl6, tl7, tl8, tl9, tl10, tl11, tl12, tl13, tl14, tl15, tl16, tl24, tl30, tl33, tl60, tl84, tl96, tl99, tl100, tl200, tlm1] at h14 hc; omega))⟩)
  · have hc : Rg 6 k ∧ Rg 10 p ∧ Rg 100 a := by simp (disch := omega) only [Rg, tlt, tle, teq, tnI, ts1, tl0, tl1, tl2, tl3, tl4, tl5, tl6, tl7, tl8, tl9, tl10, tl11, tl12, tl13, tl14, tl15, tl16, tl24, tl30, tl33, tl60, tl84, tl96, tl99, tl100, tl200, tlm1] at h1 h2 h3 h4 h5 h6 ⊢; omega
    rw [e0, show (8 : Int32) = nI 8 from rfl, nI_eq (by omega) (by omega)] at h7
    have := hR M (Ag.rf _ _) (by unfold nxOne; rw [if_neg (fun q => q.2 h7)])
    unfold anOne at this
    rw [if_pos hc, if_pos h7] at this
    exact this
  all_goals rw [e0, show (8 : Int32) = nI 8 from rfl, nI_eq (by omega) (by omega)] at h8
  · rw [e0, q0]; exact vpn (by omega) (by decide)
  · rw [e0, q1]; exact vpn (by omega) (by decide)
  · rw [e0, q2]; exact vpn (by omega) (by decide)
  · rw [e0, q3]; exact vpn (by omega) (by decide)
  · have hc : Rg 6 k ∧ Rg 10 p ∧ Rg 100 a := by simp (disch := omega) only [Rg, tlt, tle, teq, tnI, ts1, tl0, tl1, tl2, tl3, tl4, tl5, tl6, tl7, tl8, tl9, tl10, tl11, tl12, tl13, tl14, tl15, tl16, tl24, tl30, tl33, tl60, tl84, tl96, tl99, tl100, tl200, tlm1] at h1 h2 h3 h4 h5 h6 ⊢; omega
    have f0 : ix (10 + 4 * M 101 0 + 0) = 10 + 4 * np (M 101) := by rw [e0, q0, ix_nI (by omega)]
    have f1 : ix (10 + 4 * M 101 0 + 1) = 11 + 4 * np (M 101) := by rw [e0, q1, ix_nI (by omega)]
    have f2 : ix (10 + 4 * M 101 0 + 2) = 12 + 4 * np (M 101) := by rw [e0, q2, ix_nI (by omega)]
    have f3 : ix (10 + 4 * M 101 0 + 3) = 13 + 4 * np (M 101) := by rw [e0, q3, ix_nI (by omega)]
    subst eM3 eM6
    have := hR (um (um (um (um (um M 101 0 (M 101 0 + 1)) 101 (ix (10 + 4 * M 101 0 + 0)) k) 101 (ix (10 + 4 * M 101 0 + 1)) p) 101 (ix (10 + 4 * M 101 0 + 2)) a) 101 (ix (10 + 4 * M 101 0 + 3)) 0) ((((((Ag.rf _ _).ua (by decide) _).ua (by decide) _).ua (by decide) _).ua (by decide) _).ua (by decide) _) (by unfold nxOne; rw [if_pos ⟨hc, h8⟩]; simp only [um_s, f0, f1, f2, f3]; rfl)
    unfold anOne at this
    rw [if_pos hc, if_neg h8] at this
    have ev : (um (um (um (um (um M 101 0 (M 101 0 + 1)) 101 (ix (10 + 4 * M 101 0 + 0)) k) 101 (ix (10 + 4 * M 101 0 + 1)) p) 101 (ix (10 + 4 * M 101 0 + 2)) a) 101 (ix (10 + 4 * M 101 0 + 3)) 0) 101 0 - 1 = M 101 0 := by
      simp only [um_s, f0, f1, f2, f3]
      rw [pk_un (by omega), pk_un (by omega), pk_un (by omega), pk_un (by omega), pk_us, Int32.add_sub_cancel]
    rw [ev]
    exact this
end
