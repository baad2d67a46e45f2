-- deal
def d4S (s : Nat → Int32) : Nat → Int32 := drS (drS (drS (drS s)))
def dwS (s : Nat → Int32) : Nat → Int32 := upd (upd (upd (upd (upd (d4S s) 0 (s 0 + 1)) (10 + 4 * np s) (irm (dvS (drS s)) 6)) (11 + 4 * np s) (irm (dvS (drS (drS s))) 10)) (12 + 4 * np s) (irm (dvS (drS (drS (drS s)))) 80)) (13 + 4 * np s) (dvS (d4S s) &&& mk (nw s))
theorem d4_n (s : Nat → Int32) {j : Nat} (h : j ≠ 9) : d4S s j = s j := by unfold d4S; rw [dr_n _ h, dr_n _ h, dr_n _ h, dr_n _ h]
theorem d4_keep (s : Nat → Int32) : Keep s (d4S s) := (((dr_keep s).tr (dr_keep _)).tr (dr_keep _)).tr (dr_keep _)
theorem dw_ad (s : Nat → Int32) : dwS s = adS (d4S s) (irm (dvS (drS s)) 6) (irm (dvS (drS (drS s))) 10) (irm (dvS (drS (drS (drS s)))) 80) (dvS (d4S s) &&& mk (nw s)) := by
  unfold adS
  rw [(d4_keep s).gnp, d4_n s (by decide)]
  rfl
theorem ti_cong {s s' : Nat → Int32} (h1 : s' 1 = s 1) (h : ∀ j, 84 ≤ j → s' j = s j) (g : TI s) : TI s' := by
  obtain ⟨g1, g2, g3⟩ := g
  have e : nt s' = nt s := by show ix (s' 1) = ix (s 1); rw [h1]
  refine ⟨by rw [e, h1]; exact g1, by rw [e]; exact g2, fun t ht => ?_⟩
  rw [e] at ht
  exact wfT_cong (fun j hj _ => h j (by omega)) (g3 t ht)
theorem ad_np {s : Nat → Int32} (h : PI s) (h8 : np s < 8) (k p a x : Int32) : np (adS s k p a x) = np s + 1 := by
  show ix (adS s k p a x 0) = _
  unfold adS
  rw [pk_un (by omega), pk_un (by omega), pk_un (by omega), pk_un (by omega), pk_us, h.1, p1, ix_nI (by omega)]
theorem inv_ad {s : Nat → Int32} (h : Inv s) (h8 : np s < 8) {k p a x : Int32} (hk : ∃ n, n < 6 ∧ k = nI n) (hp : ∃ n, n < 10 ∧ p = nI n) (ha : ∃ n, n < 100 ∧ a = nI n) (hx : ∀ j, bt x j = true → j < nw s) : Inv (adS s k p a x) := by
  have en := ad_np h.1 h8 k p a x
  have lo : ∀ j, j ≠ 0 → j < 10 ∨ 14 + 4 * np s ≤ j → adS s k p a x j = s j := by
    intro j h0 hj
    unfold adS
    rw [pk_un (by omega), pk_un (by omega), pk_un (by omega), pk_un (by omega), pk_un (by omega)]
  have ew : nw (adS s k p a x) = nw s := by show ix (adS s k p a x 3) = ix (s 3); rw [lo 3 (by decide) (by omega)]
  refine ⟨⟨?_, by rw [en]; omega⟩, ⟨?_, by rw [ew]; exact h.2.1.2⟩, ti_cong (lo 1 (by decide) (by omega)) (fun j hj => lo j (by omega) (by omega)) h.2.2.1, fun j hj => ?_, fun w hw => ?_⟩
  · rw [en]
    unfold adS
    rw [pk_un (by omega), pk_un (by omega), pk_un (by omega), pk_un (by omega), pk_us, h.1.1, p1]
  · rw [ew, lo 3 (by decide) (by omega)]; exact h.2.1.1
  · rw [en] at hj
    rw [ew]
    by_cases e : j = np s
    · subst e
      have c0 : kd (adS s k p a x) (np s) = k := by
        show adS s k p a x (10 + 4 * np s) = _
        unfold adS; rw [pk_un (by omega), pk_un (by omega), pk_un (by omega), pk_us]
      have c1 : pl (adS s k p a x) (np s) = p := by
        show adS s k p a x (11 + 4 * np s) = _
        unfold adS; rw [pk_un (by omega), pk_un (by omega), pk_us]
      have c2 : ag (adS s k p a x) (np s) = a := by
        show adS s k p a x (12 + 4 * np s) = _
        unfold adS; rw [pk_un (by omega), pk_us]
      have c3 : sk (adS s k p a x) (np s) = x := by
        show adS s k p a x (13 + 4 * np s) = _
        unfold adS; rw [pk_us]
      rw [c0, c1, c2, c3]
      exact ⟨hk, hp, ha, hx⟩
    · have lj : ∀ i, 10 + 4 * j ≤ i → i < 14 + 4 * j → adS s k p a x i = s i := by
        intro i h1 h2
        unfold adS
        rw [pk_un (by omega), pk_un (by omega), pk_un (by omega), pk_un (by omega), pk_un (by omega)]
      have c0 : kd (adS s k p a x) j = kd s j := lj _ (by omega) (by omega)
      have c1 : pl (adS s k p a x) j = pl s j := lj _ (by omega) (by omega)
      have c2 : ag (adS s k p a x) j = ag s j := lj _ (by omega) (by omega)
      have c3 : sk (adS s k p a x) j = sk s j := lj _ (by omega) (by omega)
      rw [c0, c1, c2, c3]
      exact h.2.2.2.1 j (by omega)
  · rw [ew] at hw
    have := h.2.1.2
    have c0 : fr (adS s k p a x) w = fr s w := lo _ (by omega) (by omega)
    have c1 : tt (adS s k p a x) w = tt s w := lo _ (by omega) (by omega)
    have c2 : sd (adS s k p a x) w = sd s w := lo _ (by omega) (by omega)
    rw [c0, c1, c2]
    exact h.2.2.2.2 w hw
theorem rem_is (s : Nat → Int32) {n : Nat} (h0 : 0 < n) (hn : n < 2 ^ 24) : ∃ a, a < n ∧ irm (dvS s) (nI n) = nI a := by
  obtain ⟨v, hv, e⟩ := dv_is s
  exact ⟨v % n, Nat.mod_lt _ h0, by rw [e, irm_is hv h0 hn]⟩
theorem inv_dw {s : Nat → Int32} (h : Inv s) (h8 : np s < 8) : Inv (dwS s) ∧ np (dwS s) = np s + 1 := by
  have h4 : Inv (d4S s) := inv_dr (inv_dr (inv_dr (inv_dr h)))
  have e4 := (d4_keep s).gnp
  have e3 := (d4_keep s).gnw
  obtain ⟨a2, h2, f2⟩ := rem_is (drS (drS (drS s))) (n := 80) (by decide) (by decide)
  rw [dw_ad]
  refine ⟨inv_ad h4 (by omega) (rem_is (drS s) (n := 6) (by decide) (by decide)) (rem_is (drS (drS s)) (n := 10) (by decide) (by decide)) ⟨a2, by omega, f2⟩ (fun j hj => ?_), ?_⟩
  · rw [b_and, Bool.and_eq_true, bt_mk h.2.1.2, decide_eq_true_eq] at hj
    omega
  · rw [ad_np h4.1 (by omega), e4]
def dlS (s : Nat → Int32) (i : Nat) : Nat → Int32 := itN (fun _ s => dwS s) i s
theorem dl_s (s : Nat → Int32) (i : Nat) : dlS s (i + 1) = dwS (dlS s i) := rfl
theorem inv_dl {s : Nat → Int32} (h : Inv s) : ∀ i, np s + i ≤ 8 → Inv (dlS s i) ∧ np (dlS s i) = np s + i
  | 0, _ => ⟨h, rfl⟩
  | i + 1, hi => by
    obtain ⟨g1, g2⟩ := inv_dl h i (by omega)
    rw [dl_s]
    obtain ⟨q1, q2⟩ := inv_dw g1 (by omega)
    exact ⟨q1, by rw [q2, g2]; omega⟩
section
variable {l : Launch} {G : GT} {D : Nat} {M : Mem} {R : Option Value → Mem → Prop} {b : Nat} {s : Nat → Int32}
theorem LR.dr (hI : Inv s) (h : LR M b s) : LR (um M b 17 (M b 17 * 1103515245 + 12345)) b (drS s) := by
  rw [show M b 17 = s 9 from h.1.2.2.2.2.2.2.2.2.2.1]
  exact LR_17 hI.2.1 h _
theorem sX1_addDrawn (hb : IsLd b) (hD : 8 ≤ D) (hI : Inv s) (hL : LR M b s) (h8 : np s < 8) (hR : ∀ M', Ag (ldC b) M M' → LR M' b (dwS s) → R none M') : Tr l G D mX1_addDrawn [.ref (G.1 b)] M R := by
  obtain ⟨d, rfl⟩ := dE (show 4 ≤ D by omega)
  refine tX1_addDrawn hb (fun M1 hM1 M2 hM2 => ?_)
  have i1 := inv_dr hI
  have i2 := inv_dr i1
  have i3 := inv_dr i2
  have i4 := inv_dr i3
  have g1 := LR.dr hI hL
  have g2 := LR.dr i1 g1
  rw [← hM1] at g2
  have g3 := LR.dr i2 g2
  have g4 := LR.dr i3 g3
  rw [← hM2] at g4
  have hA : Ag (ldC b) M M2 := by
    rw [hM2, hM1]
    refine (((((Ag.rf _ M).ua ?_ _).ua ?_ _).ua ?_ _).ua ?_ _) <;> simp [ldC]
  have e6 : M2 b 6 = nI (nw s) := by
    have := g4.1.2.1.trans i4.2.1.1
    rw [show nw (drS (drS (drS (drS s)))) = nw s from (d4_keep s).gnw] at this
    exact this
  have e4 : np (drS (drS (drS (drS s)))) = np s := (d4_keep s).gnp
  rw [dv_X g1.1.2.2.2.2.2.2.2.2.2.1, dv_X g2.1.2.2.2.2.2.2.2.2.2.1, dv_X g3.1.2.2.2.2.2.2.2.2.2.1, dv_X g4.1.2.2.2.2.2.2.2.2.2.1, e6]
  refine sX1_addOne hb (by omega) i4 g4 (fun M' hA2 hL' => kI_i (bX1_addDrawn_44 (hR M' (hA.tr hA2) ?_)))
  rw [if_neg (by omega)] at hL'
  rw [dw_ad]
  exact hL'
def anDeal (s : Nat → Int32) (n : Int32) : Int32 := if 1 ≤ n.toInt ∧ n.toInt ≤ 8 then nI (min (8 - np s) (ix n)) else (-1000000001)
def nxDeal (s : Nat → Int32) (n : Int32) : Nat → Int32 := if 1 ≤ n.toInt ∧ n.toInt ≤ 8 then dlS s (min (8 - np s) (ix n)) else s
theorem X_deal {n : Int32} (hD : 16 ≤ D) (hRel : Rel M) (hR : ∀ M', Ag (scX ++ ldC 30) M M' → LR M' 30 (nxDeal (M 101) n) → R (some (.int (anDeal (M 101) n))) M') : Tr l G D mX7_deal [.ref (G.1 0), .int n] M R := by
  obtain ⟨d, rfl⟩ := dE (show 4 ≤ D by omega)
  have hL := hRel.1.1.1
  have hI := hRel.2.1.1
  have n1 : M 30 1 = nI (np (M 101)) := hL.1.1.trans hI.1.1
  have n6 : M 30 6 = nI (nw (M 101)) := hL.1.2.1.trans hI.2.1.1
  have hp := hI.1.2
  have hw := hI.2.1.2
  have hW := hI.2.1
  unfold anDeal nxDeal at hR
  by_cases hc : 1 ≤ n.toInt ∧ n.toInt ≤ 8
  · simp only [if_pos hc] at hR
    obtain ⟨n, hn, rfl⟩ := (show Rg 9 n from ⟨by have := hc.1; omega, by have := hc.2; omega⟩).ex
    have xn := ix_nI (show n < 2 ^ 31 by omega)
    try simp only [xn] at hR
    have em : (if (8 : Int32) - M 30 1 < nI n then (8 : Int32) - M 30 1 else nI n) = nI (min (8 - np (M 101)) n) := by
      rw [n1, show (8 : Int32) = nI 8 from rfl, sub_nI hp (by decide)]
      by_cases h : 8 - np (M 101) < n
      · rw [if_pos ((lt_nI (by omega) (by omega)).mpr h), Nat.min_eq_left (by omega)]
      · rw [if_neg (fun q => h ((lt_nI (by omega) (by omega)).mp q)), Nat.min_eq_right (by omega)]
    refine tX7_deal ⟨fun h1 => (absurd hc (fun hc => by simp (disch := omega) only [n1, n6, ne_eq, not_true_eq_false, Rg, tlt, tle, teq, tnI, ts1, tl0, tl1, tl2, tl3, tl4, tl5, tl6, tl7, tl8, tl9, tl10, tl11, tl12, tl13, tl14, tl15, tl16, tl24, tl30, tl33, tl60, tl84, tl96, tl99, tl100, tl200, tlm1] at h1 hc <;> omega)), fun h2 => ⟨fun h3 => ?_, fun h4 => (absurd hc (fun hc => by simp (disch := omega) only [n1, n6, ne_eq, not_true_eq_false, Rg, tlt, tle, teq, tnI, ts1, tl0, tl1, tl2, tl3, tl4, tl5, tl6, tl7, tl8, tl9, tl10, tl11, tl12, tl13, tl14, tl15, tl16, tl24, tl30, tl33, tl60, tl84, tl96, tl99, tl100, tl200, tlm1] at h2 h4 hc <;> omega))⟩⟩
    rw [em]
    generalize hm : min (8 - np (M 101)) n = m at hR ⊢
    have loop : ∀ i, i ≤ m → ∀ M', Ag (ldC 30) M M' → LR M' 30 (dlS (M 101) i) → At l G (d + 4) mX7_deal 31 [some (.ref (G.1 0)), none, some (.int (nI m)), some (.int (nI i))] [] M' R := by
      refine upL (fun i => ∀ M', Ag (ldC 30) M M' → LR M' 30 (dlS (M 101) i) → At l G (d + 4) mX7_deal 31 [some (.ref (G.1 0)), none, some (.int (nI m)), some (.int (nI i))] [] M' R) m ?_ ?_
      · intro M' hA hL'
        exact bX7_deal_31 ⟨fun _ => hR M' (hA.sub (fun k hk => List.mem_append_right _ hk)) hL', fun h => absurd (by rw [le_nI (by omega) (by omega)]; exact Nat.le_refl _) h⟩
      · intro i hi ih M' hA hL'
        obtain ⟨q1, q2⟩ := inv_dl hI i (by omega)
        refine bX7_deal_31 ⟨fun h => absurd h (by rw [le_nI (by omega) (by omega)]; omega), fun _ => ?_⟩
        refine sX1_addDrawn ld30 (by omega) q1 hL' (by omega) (fun M2 hA2 hL2 => kV_i (bX7_deal_43 ?_))
        rw [p1]
        exact ih M2 (hA.tr hA2) (by rw [dl_s]; exact hL2)
    exact loop 0 (Nat.zero_le _) M (Ag.rf _ _) hL
  · simp only [if_neg hc] at hR
    exact tX7_deal ⟨fun h1 => (hR M (Ag.rf _ _) hL), fun h2 => ⟨fun h3 => ((hc (by simp (disch := omega) only [n1, n6, ne_eq, not_true_eq_false, Rg, tlt, tle, teq, tnI, ts1, tl0, tl1, tl2, tl3, tl4, tl5, tl6, tl7, tl8, tl9, tl10, tl11, tl12, tl13, tl14, tl15, tl16, tl24, tl30, tl33, tl60, tl84, tl96, tl99, tl100, tl200, tlm1] at h2 h3 ⊢ <;> omega)).elim), fun h4 => (hR M (Ag.rf _ _) hL)⟩⟩
theorem M_deal {n : Int32} (hD : 8 ≤ D) (hIS : IS M) (hR : ∀ M', Ag scY M M' → M' 101 = nxDeal (M 101) n → R (some (.int (anDeal (M 101) n))) M') : Tr l G D mX8_deal [.ref (G.1 100), .int n] M R := by
  obtain ⟨d, rfl⟩ := dE (show 4 ≤ D by omega)
  have hI := hIS.1.1
  have m0 : M 101 0 = nI (np (M 101)) := hI.1.1
  have m3 : M 101 3 = nI (nw (M 101)) := hI.2.1.1
  have hp := hI.1.2
  have hw := hI.2.1.2
  have hW := hI.2.1
  unfold anDeal nxDeal at hR
  by_cases hc : 1 ≤ n.toInt ∧ n.toInt ≤ 8
  · simp only [if_pos hc] at hR
    obtain ⟨n, hn, rfl⟩ := (show Rg 9 n from ⟨by have := hc.1; omega, by have := hc.2; omega⟩).ex
    have xn := ix_nI (show n < 2 ^ 31 by omega)
    try simp only [xn] at hR
    refine tX8_deal ⟨fun h1 => ⟨fun h2 => ?_, fun h3 => (absurd hc (fun hc => by simp (disch := omega) only [m0, m3, ne_eq, not_true_eq_false, Rg, tlt, tle, teq, tnI, ts1, tl0, tl1, tl2, tl3, tl4, tl5, tl6, tl7, tl8, tl9, tl10, tl11, tl12, tl13, tl14, tl15, tl16, tl24, tl30, tl33, tl60, tl84, tl96, tl99, tl100, tl200, tlm1] at h1 h3 hc <;> omega))⟩, fun h4 => (absurd hc (fun hc => by simp (disch := omega) only [m0, m3, ne_eq, not_true_eq_false, Rg, tlt, tle, teq, tnI, ts1, tl0, tl1, tl2, tl3, tl4, tl5, tl6, tl7, tl8, tl9, tl10, tl11, tl12, tl13, tl14, tl15, tl16, tl24, tl30, tl33, tl60, tl84, tl96, tl99, tl100, tl200, tlm1] at h4 hc <;> omega))⟩
    generalize hm : min (8 - np (M 101)) n = m at hR
    have loop : ∀ i, i ≤ m → ∀ M', Ag scY M M' → M' 101 = dlS (M 101) i → At l G (d + 4) mX8_deal 17 [some (.ref (G.1 100)), some (.int (nI n)), some (.int (nI i)), none, none, none] [] M' R := by
      refine upL (fun i => ∀ M', Ag scY M M' → M' 101 = dlS (M 101) i → At l G (d + 4) mX8_deal 17 [some (.ref (G.1 100)), some (.int (nI n)), some (.int (nI i)), none, none, none] [] M' R) m ?_ ?_
      · intro M' hA he
        obtain ⟨q1, q2⟩ := inv_dl hI m (by omega)
        have q3 := q1.1.1
        rw [q2] at q3
        refine bX8_deal_17 ⟨fun _ => hR M' hA he, fun h => ⟨fun _ => hR M' hA he, fun h2 => absurd ?_ h2⟩⟩
        rw [le_nI (by omega) (by omega)] at h
        rw [he, q3, show (8 : Int32) = nI 8 from rfl, le_nI (by omega) (by omega)]
        omega
      · intro i hi ih M' hA he
        obtain ⟨q1, q2⟩ := inv_dl hI i (by omega)
        have q3 := q1.1.1
        have q4 : M' 101 0 = nI (np (M' 101)) := by rw [he]; exact q3
        have q5 : M' 101 3 = nI (nw (M' 101)) := by rw [he]; exact q1.2.1.1
        have q6 : np (M' 101) < 8 := by rw [he, q2]; omega
        refine bX8_deal_17 ⟨fun h => absurd h ?_, fun _ => ⟨fun h => absurd h ?_, fun _ M3 g3 M4 g4 => ?_⟩⟩
        · rw [le_nI (by omega) (by omega)]; omega
        · rw [he, q3, q2, show (8 : Int32) = nI 8 from rfl, le_nI (by omega) (by omega)]; omega
        have f3 : M3 = ua M' 101 (drS (drS (M' 101))) := by rw [g3, um_dr, um_dr, ua_s, ua_ua]
        have f4 : M4 = ua M' 101 (d4S (M' 101)) := by rw [g4, f3, um_dr, um_dr]; simp only [ua_s, ua_ua]; rfl
        have f5 : M4 101 0 = nI (np (M' 101)) := by rw [f4, ua_s, d4_n _ (by decide), q4]
        have f6 : M4 101 3 = nI (nw (M' 101)) := by rw [f4, ua_s, d4_n _ (by decide), q5]
        rw [f5, f6]
        refine ⟨v0 q6, fun M6 e6 => ⟨v1 q6, fun M8 e8 => ⟨v2 q6, fun M10 e10 => ⟨v3 q6, fun M12 e12 => ?_⟩⟩⟩⟩
        rw [p1]
        refine ih M12 ?_ ?_
        · rw [e12, e10, e8, e6, f4]
          exact (((((hA.ua (by decide) _).ua (by decide) _).ua (by decide) _).ua (by decide) _).ua (by decide) _).ua (by decide) _
        · rw [dl_s, ← he, e12, e10, e8, e6, f4, f3]
          rw [e0 q6, e1 q6, e2 q6, e3 q6]
          simp only [um_dr, um_s, ua_s, ua_ua, dr_f, dv_f, irm_f, p1]
          unfold dwS
          rw [q4, p1]
    exact loop 0 (Nat.zero_le _) M (Ag.rf _ _) rfl
  · simp only [if_neg hc] at hR
    exact tX8_deal ⟨fun h1 => ⟨fun h2 => ((hc (by simp (disch := omega) only [m0, m3, ne_eq, not_true_eq_false, Rg, tlt, tle, teq, tnI, ts1, tl0, tl1, tl2, tl3, tl4, tl5, tl6, tl7, tl8, tl9, tl10, tl11, tl12, tl13, tl14, tl15, tl16, tl24, tl30, tl33, tl60, tl84, tl96, tl99, tl100, tl200, tlm1] at h1 h2 ⊢ <;> omega)).elim), fun h3 => ((hR M (Ag.rf _ _) rfl))⟩, fun h4 => ((hR M (Ag.rf _ _) rfl))⟩
end
