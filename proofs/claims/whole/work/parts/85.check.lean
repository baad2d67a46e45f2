-- check
abbrev knS (s : Nat → Int32) : Int32 := pcI (brS s (mk (np s)))
def imS (M : Mem) : Nat → Int32 := fun j => if j < 2884 then M 102 j else M 101 j
def dqS (s : Nat → Int32) (j : Nat) : Int32 := if j % 2 = 0 then dysS (j / 2 + 1) s 6 else knS (dysS (j / 2 + 1) s)
def ckF (w : Nat → Int32) (s : Nat → Int32) (T : Nat) : Nat → Nat → Int32
  | k, 0 => if T ≤ k then 0 else nI (1 + k)
  | k, f + 1 => if T ≤ k then nI (1 + k) else if w k = dqS s k then ckF w s T (k + 1) f else nI (1 + k)
theorem ck_0 (w : Nat → Int32) (s : Nat → Int32) (T k : Nat) : ckF w s T k 0 = if T ≤ k then 0 else nI (1 + k) := rfl
theorem ck_s (w : Nat → Int32) (s : Nat → Int32) (T k f : Nat) : ckF w s T k (f + 1) = if T ≤ k then nI (1 + k) else if w k = dqS s k then ckF w s T (k + 1) f else nI (1 + k) := rfl
theorem dq_e (s : Nat → Int32) (i : Nat) : dqS s (2 * i) = dysS (i + 1) s 6 := by
  unfold dqS
  rw [if_pos (by omega), show 2 * i / 2 = i by omega]
theorem dq_o (s : Nat → Int32) (i : Nat) : dqS s (2 * i + 1) = knS (dysS (i + 1) s) := by
  unfold dqS
  rw [if_neg (by omega), show (2 * i + 1) / 2 = i by omega]
def lsS (M : Mem) (v : Nat) : Nat := if 9999 - ix (imS M 2) < v then 9999 - ix (imS M 2) else v
theorem im_lo (M : Mem) : ∀ j, j < 2884 → imS M j = M 102 j := fun j hj => if_pos hj
theorem t2 (i : Nat) : 2 * nI i = nI (2 * i) := by
  rw [show (2 : Int32) = nI 2 from rfl, pk_mul]
theorem t1p (i : Nat) : 1 + nI i = nI (1 + i) := by
  rw [show (1 : Int32) = nI 1 from rfl, nI_add]
theorem t2p (i : Nat) : 2 + nI i = nI (2 + i) := by
  rw [show (2 : Int32) = nI 2 from rfl, nI_add]
theorem im_IL {M : Mem} (hIS : IS M) (h : M 100 3 = 1) : IL (imS M) ∧ nt (imS M) ≤ nt (M 101) ∧ ∀ j, 84 ≤ j → j < 84 + 200 * nt (imS M) → imS M j = M 101 j := by
  rcases hIS.2.1 with q | ⟨-, i1, i2, i3⟩
  · rw [h] at q; exact absurd q (by decide)
  · have e := nt_cong (im_lo M)
    refine ⟨il_cong (im_lo M) i1, by rw [e]; exact i2, fun j hj hj2 => ?_⟩
    rw [e] at hj2
    have h14 := i1.1.2.2.1.2.1
    rw [im_lo M j (by omega)]
    exact i3 j hj hj2
section
variable {l : Launch} {G : GT} {D : Nat} {M : Mem} {R : Option Value → Mem → Prop} {b : Nat} {s : Nat → Int32}
def anCheck (M : Mem) (v : Int32) : Int32 := if 1 ≤ v ∧ v ≤ 30 then (if M 100 3 = 0 then (-1000000002) else ckF (M 118) (imS M) (ix (M 100 30)) 0 (2 * lsS M (ix v))) else (-1000000001)
theorem X_check {v : Int32} (hD : 40 ≤ D) (hRel : Rel M) (hR : ∀ M', Ag (0 :: scX) M M' → M' 0 = upd (M 0) 11 0 → R (some (.int (anCheck M v))) M') : Tr l G D mX7_check [.ref (G.1 0), .int v] M R := by
  obtain ⟨d, rfl⟩ := dE (show 4 ≤ D by omega)
  have hA0 : Ag (0 :: scX) M (um M 0 11 0) := (Ag.rf _ M).ua (by decide) _
  have h00 : (um M 0 11 0) 0 = upd (M 0) 11 0 := um_s _ _ _ _
  have e05 : (um M 0 11 0) 0 5 = M 100 3 := by rw [h00, pk_un (by decide)]; exact hRel.1.2.1.1
  unfold anCheck at hR
  by_cases hc : 1 ≤ v ∧ v ≤ 30
  · simp only [if_pos hc] at hR
    refine tX7_check ⟨fun h => absurd hc.1 (Int32.not_le.mpr h), fun _ => ⟨fun _ => ?_, fun h => absurd hc.2 h⟩⟩
    rw [e05]
    refine ⟨fun h => by rw [if_pos h] at hR; exact hR _ hA0 h00, fun h3 => ?_⟩
    rw [if_neg h3] at hR
    have h31 : M 100 3 = 1 := by
      rcases hRel.2.2.1 with q | q
      · exact absurd q h3
      · exact q.1
    obtain ⟨il, inT, irow⟩ := im_IL hRel.2 h31
    obtain ⟨T, hT, eT⟩ := hRel.2.2.2.2.2.2
    have eT0 : M 0 11 = nI T := hRel.1.2.2.2.2.2.1.trans eT
    have wv : ∀ i, i < 60 → M 63 i = M 118 i := hRel.1.2.2.2.2.2.2
    obtain ⟨v, hv, rfl⟩ := Rg.ex (n := 31) (v := v) (by have a := hc.1; have c := hc.2; simp (disch := omega) only [ne_eq, not_true_eq_false, Rg, tlt, tle, teq, tnI, ts1, tl0, tl1, tl2, tl3, tl4, tl5, tl6, tl7, tl8, tl9, tl10, tl11, tl12, tl13, tl14, tl15, tl16, tl24, tl30, tl33, tl60, tl84, tl96, tl99, tl100, tl200, tlm1, t44] at a c ⊢ <;> omega)
    have hv1 : 1 ≤ v := by have := hc.1; rw [show (1 : Int32) = nI 1 from rfl, le_nI (by omega) (by omega)] at this; exact this
    rw [eT, ix_nI (show T < 2 ^ 31 by omega), ix_nI (show v < 2 ^ 31 by omega)] at hR
    have hla : lsS M v ≤ 30 := by unfold lsS; split <;> omega
    have hLi : LR M 50 (imS M) := LR.cong (by
      rcases hRel.2.2.1 with q | ⟨-, i1, -⟩
      · exact absurd q h3
      · exact i1.1) (im_lo M) (hRel.1.2.1.2 h31)
    have hLi' : LR (um M 0 11 0) 50 (imS M) := hLi.of (fun j hj => um_n _ _ _ (by omega))
    have hLW : ∀ t, t < nt (imS M) → LW M (imS M) t := fun t ht => LW_cong (s := M 101) (fun j hj hj2 => irow j (by omega) (by omega)) ((hRel.2.1.1.2.2.1.2.2 t (by omega)).2.2.1) (hRel.1.1.2 t (by omega))
    obtain ⟨iI, w6, d2, es6, es2, hd2, hw6⟩ := il
    have els : (if (9999 - nI d2 : Int32) < nI v then (9999 - nI d2 : Int32) else nI v) = nI (lsS M v) := by
      have e99 : (9999 : Int32) - nI d2 = nI (9999 - d2) := by
        rw [teq, show (9999 : Int32) = nI 9999 from rfl, pk_sub_toInt (by decide) (by omega), tnI (by omega)]
        omega
      unfold lsS
      rw [es2, ix_nI (by omega), e99]
      have q := lt_nI (a := 9999 - d2) (b := v) (by omega) (by omega)
      by_cases c : 9999 - d2 < v
      · rw [if_pos c, if_pos (q.mpr c)]
      · rw [if_neg c, if_neg (fun x => c (q.mp x))]
    have loop : ∀ i, i ≤ lsS M v → ∀ M', Ag (0 :: scX) M M' → M' 0 = upd (M 0) 11 0 → XS M' 40 (dysS i (imS M)) → 2 * i ≤ T → (∀ M', Ag (0 :: scX) M M' → M' 0 = upd (M 0) 11 0 → R (some (.int (ckF (M 118) (imS M) T (2 * i) (2 * (lsS M v - i))))) M') → At l G (d + 4) mX7_check 64 [some (.ref (G.1 0)), none, some (.int (nI T)), some (.int (nI (lsS M v))), some (.int (nI i))] [] M' R := by
      refine upL (fun i => ∀ M', Ag (0 :: scX) M M' → M' 0 = upd (M 0) 11 0 → XS M' 40 (dysS i (imS M)) → 2 * i ≤ T → (∀ M', Ag (0 :: scX) M M' → M' 0 = upd (M 0) 11 0 → R (some (.int (ckF (M 118) (imS M) T (2 * i) (2 * (lsS M v - i))))) M') → At l G (d + 4) mX7_check 64 [some (.ref (G.1 0)), none, some (.int (nI T)), some (.int (nI (lsS M v))), some (.int (nI i))] [] M' R) (lsS M v) ?_ ?_
      · intro M' hA h0 hX hle hR
        have hR := hR M' hA h0
        rw [Nat.sub_self, ck_0] at hR
        refine bX7_check_64 ⟨fun _ => ?_, fun h => absurd (Int32.le_refl _) h⟩
        rw [t2, t1p, le_nI (by omega) (by omega)]
        exact ⟨fun h => by rw [if_pos h] at hR; exact hR, fun h => by rw [if_neg h] at hR; exact hR⟩
      · intro i hi ih M' hA h0 hX hle hR
        refine bX7_check_64 ⟨fun h => absurd h (by rw [le_nI (by omega) (by omega)]; omega), fun _ => ?_⟩
        refine sX1_passDays (n := 1) ld40 (by omega) (by decide) hX (fun M2 hA2 hX2 => kV_i (bX7_check_78 ?_))
        rw [dys_1, ← dys_s] at hX2
        have hA' : Ag (0 :: scX) M M2 := hA.tr (hA2.sub (fun k hk => List.mem_cons_of_mem _ (scx40 k hk)))
        have h0' : M2 0 = upd (M 0) 11 0 := by rw [hA2 0 (by decide)]; exact h0
        have e63 : M2 63 = M 63 := hA' 63 (by decide)
        have e13 : M2 40 13 = dqS (imS M) (2 * i) := by rw [dq_e]; exact hX2.1.1.2.2.2.2.2.1
        have hR := hR
        rw [show 2 * (lsS M v - i) = (2 * (lsS M v - (i + 1)) + 1) + 1 by omega] at hR
        simp only [ck_s] at hR
        rw [t2, t1p, t2p, p1, le_nI (by omega) (by omega), le_nI (by omega) (by omega), ix_nI (show 2 * i < 2 ^ 31 by omega), ix_nI (show 2 * i + 1 < 2 ^ 31 by omega), e63, wv _ (by omega), wv _ (by omega), e13]
        refine ⟨fun h => ?_, fun h => ⟨vpn (by omega) (by decide), fun h2 => ⟨fun h3 => ?_, fun h3 => ⟨vpn (by omega) (by decide), ?_⟩⟩, fun h2 => ?_⟩⟩
        · have hR := hR M2 hA' h0'
          rw [if_pos h] at hR
          exact hR
        · have hR := hR M2 hA' h0'
          rw [if_neg h, if_pos h2, if_pos h3, show 1 + (2 * i + 1) = 2 + 2 * i by omega] at hR
          exact hR
        · refine sX1_waysBorne ld40 (by omega) hX2.2.1 hX2.1 (kI_i (bX7_check_140 ⟨fun h4 => ?_, fun h4 => ?_⟩))
          · rw [p1]
            refine ih M2 hA' h0' hX2 (by omega) (fun M3 hA3 h03 => ?_)
            have hR := hR M3 hA3 h03
            rw [if_neg h, if_pos h2, if_neg h3, if_pos (by rw [dq_o]; exact h4)] at hR
            exact hR
          · have hR := hR M2 hA' h0'
            rw [if_neg h, if_pos h2, if_neg h3, if_neg (by rw [dq_o]; exact h4), show 1 + (2 * i + 1) = 2 + 2 * i by omega] at hR
            rw [t2, t2p]
            exact hR
        · have hR := hR M2 hA' h0'
          rw [if_neg h, if_neg h2] at hR
          exact hR
    refine sX1_take ld40 ld50 (by decide) (by omega) hLi' (fun M1 hA1 hL1 => kV_i (bX7_check_45 ?_))
    have hA' : Ag (0 :: scX) M M1 := hA0.tr (hA1.sub (fun k hk => List.mem_cons_of_mem _ (scx40 k hk)))
    have c50 : M1 50 16 = nI d2 := by
      rw [hA' 50 (by decide)]
      exact hLi.1.2.2.2.2.2.2.2.2.1.trans es2
    rw [c50, els, eT0]
    refine loop 0 (Nat.zero_le _) M1 hA' (by rw [hA1 0 (by decide)]; exact h00) ⟨hL1, iI, fun t (ht : t < nt (imS M)) => ?_⟩ (Nat.zero_le _) hR
    have hw := hLW t ht
    have h14 := iI.2.2.1.2.1
    unfold LW at hw ⊢
    rw [hA' 3 (by decide), hA' 4 (by decide), hA' 5 (by decide), hA' (7 + t) (by simp [scX]; omega)]
    exact hw
  · simp only [if_neg hc] at hR
    have hB := hR _ hA0 h00
    refine tX7_check ⟨fun _ => hB, fun h1 => ⟨fun h2 => absurd ⟨Int32.not_lt.mp h1, h2⟩ hc, fun _ => hB⟩⟩
theorem M_check {v : Int32} (hD : 40 ≤ D) (hIS : IS M) (hR : ∀ M', Ag (100 :: scY) M M' → M' 100 = upd (M 100) 30 0 → M' 101 = M 101 → R (some (.int (anCheck M v))) M') : Tr l G D mX8_check [.ref (G.1 100), .int v] M R := by
  obtain ⟨d, rfl⟩ := dE (show 4 ≤ D by omega)
  have hA0 : Ag (100 :: scY) M (um M 100 30 0) := (Ag.rf _ M).ua (by decide) _
  have h00 : (um M 100 30 0) 100 = upd (M 100) 30 0 := um_s _ _ _ _
  have e05 : (um M 100 30 0) 100 3 = M 100 3 := by rw [h00, pk_un (by decide)]
  have e101 : (um M 100 30 0) 101 = M 101 := um_n _ _ _ (by decide)
  unfold anCheck at hR
  by_cases hc : 1 ≤ v ∧ v ≤ 30
  · simp only [if_pos hc] at hR
    refine tX8_check ⟨fun _ => ⟨fun _ => ?_, fun h => absurd hc.2 h⟩, fun h => absurd hc.1 h⟩
    rw [e05]
    refine ⟨fun h => by rw [if_pos h] at hR; exact hR _ hA0 h00 e101, fun h3 => ?_⟩
    rw [if_neg h3] at hR
    have h31 : M 100 3 = 1 := by
      rcases hIS.2.1 with q | q
      · exact absurd q h3
      · exact q.1
    obtain ⟨il, inT, irow⟩ := im_IL hIS h31
    obtain ⟨T, hT, eT⟩ := hIS.2.2.2.2.2
    obtain ⟨v, hv, rfl⟩ := Rg.ex (n := 31) (v := v) (by have a := hc.1; have c := hc.2; simp (disch := omega) only [ne_eq, not_true_eq_false, Rg, tlt, tle, teq, tnI, ts1, tl0, tl1, tl2, tl3, tl4, tl5, tl6, tl7, tl8, tl9, tl10, tl11, tl12, tl13, tl14, tl15, tl16, tl24, tl30, tl33, tl60, tl84, tl96, tl99, tl100, tl200, tlm1, t44] at a c ⊢ <;> omega)
    have hv1 : 1 ≤ v := by have := hc.1; rw [show (1 : Int32) = nI 1 from rfl, le_nI (by omega) (by omega)] at this; exact this
    rw [eT, ix_nI (show T < 2 ^ 31 by omega), ix_nI (show v < 2 ^ 31 by omega)] at hR
    obtain ⟨iI, w6, d2, es6, es2, hd2, hw6⟩ := il
    have lsE : lsS M v = if 9999 - d2 < v then 9999 - d2 else v := by
      unfold lsS
      rw [es2, ix_nI (by omega)]
    have hla : lsS M v ≤ 30 := by rw [lsE]; split <;> omega
    -- the rows compared
    have fin : ∀ k, k ≤ (if T ≤ 2 * lsS M v then T else 2 * lsS M v) → ∀ M', Ag (100 :: scY) M M' → M' 100 = upd (M 100) 30 0 → M' 101 = M 101 → (∀ j, j < 2 * lsS M v → M' 119 j = dqS (imS M) j) → R (some (.int (ckF (M 118) (imS M) T k (2 * lsS M v - k)))) M' → At l G (d + 4) mX8_check 135 [some (.ref (G.1 100)), none, some (.int (nI T)), some (.int (nI (2 * lsS M v))), some (.int (nI k))] [] M' R := by
      intro k hk M' hA h0 he hdue
      revert k
      have e118 : M' 118 = M 118 := hA 118 (by decide)
      refine upL (fun k => R (some (.int (ckF (M 118) (imS M) T k (2 * lsS M v - k)))) M' → At l G (d + 4) mX8_check 135 [some (.ref (G.1 100)), none, some (.int (nI T)), some (.int (nI (2 * lsS M v))), some (.int (nI k))] [] M' R) (if T ≤ 2 * lsS M v then T else 2 * lsS M v) ?_ ?_
      · intro hR
        by_cases q : T ≤ 2 * lsS M v
        · rw [if_pos q] at hR ⊢
          refine bX8_check_135 ⟨fun _ => ⟨fun _ => ?_, fun h => absurd rfl h⟩, fun h => absurd (Int32.le_refl _) h⟩
          rw [nI_eq (by omega) (by omega), t1p]
          refine ⟨fun h => ?_, fun h => ?_⟩
          · rw [← h, Nat.sub_self, ck_0, if_pos (Nat.le_refl _)] at hR
            exact hR
          · rw [show 2 * lsS M v - T = (2 * lsS M v - T - 1) + 1 by omega, ck_s, if_pos (Nat.le_refl _)] at hR
            exact hR
        · rw [if_neg q] at hR ⊢
          rw [Nat.sub_self, ck_0, if_neg q] at hR
          refine bX8_check_135 ⟨fun h => absurd h (by rw [le_nI (by omega) (by omega)]; omega), fun _ => ⟨fun _ => ⟨fun h => absurd h (by rw [nI_eq (by omega) (by omega)]; omega), fun _ => ?_⟩, fun h => absurd (Int32.le_refl _) h⟩⟩
          rw [t1p]
          exact hR
      · intro k hk ih hR
        have hk1 : k < T := by split at hk <;> omega
        have hk2 : k < 2 * lsS M v := by split at hk <;> omega
        rw [show 2 * lsS M v - k = (2 * lsS M v - (k + 1)) + 1 by omega, ck_s, if_neg (by omega)] at hR
        refine bX8_check_135 ⟨fun h => absurd h (by rw [le_nI (by omega) (by omega)]; omega), fun _ => ⟨fun h => absurd h (by rw [le_nI (by omega) (by omega)]; omega), fun _ => ⟨vpn (by omega) (by decide), vpn (by omega) (by decide), fun h => ?_, fun h => ⟨fun h2 => absurd h2 (by rw [nI_eq (by omega) (by omega)]; omega), fun _ => ?_⟩⟩⟩⟩
        · rw [ix_nI (by omega), e118, hdue k hk2] at h
          rw [if_pos h] at hR
          rw [p1]
          exact ih hR
        · rw [ix_nI (by omega), e118, hdue k hk2] at h
          rw [if_neg h] at hR
          rw [t1p]
          exact hR
    have stop : ∀ M', Ag (100 :: scY) M M' → M' 100 = upd (M 100) 30 0 → (∀ j, j < 2884 → M' 103 j = M 101 j) → (∀ j, 2884 ≤ j → M' 101 j = M 101 j) → (∀ j, j < 2 * lsS M v → M' 119 j = dqS (imS M) j) → Tr l G (d + 3) mX8_setAside [.ref (G.1 100), .ref (G.1 103), .ref (G.1 101)] M' (kV fun M' => At l G (d + 4) mX8_check 132 [some (.ref (G.1 100)), none, some (.int (nI T)), some (.int (nI (2 * lsS M v))), none] [] M' R) := by
      intro M' hA h0 b1 b2 hdue
      refine sX8_setAside shp_103 (by decide) shp_101 (by decide) (by decide) (by omega) (fun M2 hA2 h2 => kV_i (bX8_check_132 ?_))
      have g : M2 101 = M 101 := by
        rw [h2]
        funext j
        by_cases q : j < 2884
        · rw [if_pos q]; exact b1 j q
        · rw [if_neg q]; exact b2 j (by omega)
      have hA' := hA.tr (hA2.sub (by decide))
      have h0' : M2 100 = upd (M 100) 30 0 := by rw [hA2 100 (by decide)]; exact h0
      exact fin 0 (Nat.zero_le _) M2 hA' h0' g (fun j hj => by rw [hA2 119 (by decide)]; exact hdue j hj) (hR M2 hA' h0' g)
    have loop : ∀ i, i ≤ lsS M v → ∀ M', Ag (100 :: scY) M M' → M' 100 = upd (M 100) 30 0 → (∀ j, j < 2884 → M' 103 j = M 101 j) → M' 101 = dysS i (imS M) → (∀ j, j < 2 * i → M' 119 j = dqS (imS M) j) → At l G (d + 4) mX8_check 64 [some (.ref (G.1 100)), some (.int (nI v)), some (.int (nI T)), some (.int (nI (2 * i))), some (.int (nI i))] [] M' R := by
      refine upL (fun i => ∀ M', Ag (100 :: scY) M M' → M' 100 = upd (M 100) 30 0 → (∀ j, j < 2884 → M' 103 j = M 101 j) → M' 101 = dysS i (imS M) → (∀ j, j < 2 * i → M' 119 j = dqS (imS M) j) → At l G (d + 4) mX8_check 64 [some (.ref (G.1 100)), some (.int (nI v)), some (.int (nI T)), some (.int (nI (2 * i))), some (.int (nI i))] [] M' R) (lsS M v) ?_ ?_
      · intro M' hA h0 b1 he hdue
        have b2 : ∀ j, 2884 ≤ j → M' 101 j = M 101 j := fun j hj => by
          rw [he, (dys_keep iI.1 iI.2.1 _).2.2.2.2.2.1 j (by omega)]
          exact if_neg (by omega)
        have e2 : M' 101 2 = nI (d2 + lsS M v) := by rw [he]; exact (dys_26 iI es6 es2 _).1
        refine bX8_check_64 ⟨fun _ => stop M' hA h0 b1 b2 hdue, fun h => ⟨fun _ => stop M' hA h0 b1 b2 hdue, fun h2 => absurd ?_ h2⟩⟩
        rw [le_nI (by omega) (by omega)] at h
        rw [e2, show (9999 : Int32) = nI 9999 from rfl, le_nI (by omega) (by omega)]
        rw [lsE] at h ⊢
        split at h <;> split <;> omega
      · intro i hi ih M' hA h0 b1 he hdue
        have e2 : M' 101 2 = nI (d2 + i) := by rw [he]; exact (dys_26 iI es6 es2 _).1
        have hiv : i < v ∧ d2 + i < 9999 := by rw [lsE] at hi; split at hi <;> omega
        have ii := inv_dys iI i
        have ii1 := inv_dys iI (i + 1)
        refine bX8_check_64 ⟨fun h => absurd h (by rw [le_nI (by omega) (by omega)]; omega), fun _ => ⟨fun h => absurd h (by rw [e2, show (9999 : Int32) = nI 9999 from rfl, le_nI (by omega) (by omega)]; omega), fun _ => ?_⟩⟩
        refine sX8_goesOn (by omega) (by rw [he]; exact ii.1) (by rw [he]; exact ii.2.1) (by rw [he]; exact ii.2.2.1) (fun M2 hA2 h2 => kV_i (bX8_check_86 ⟨vpn (by omega) (by decide), ?_⟩))
        rw [he, ← dys_s] at h2
        have hA' := hA.tr (hA2.sub (by decide))
        have c101 : (um M2 119 (ix (nI (2 * i))) (M2 101 6)) 101 = dysS (i + 1) (imS M) := by rw [um_n _ _ _ (by decide)]; exact h2
        obtain ⟨m, hm, e⟩ := br_all ii1
        refine sX8_known (by omega) (by rw [c101]; exact ii1.1) (by rw [c101, e, ix_nI (by omega)]; exact ⟨hm, rfl⟩) (kI_i (bX8_check_110 ?_))
        rw [c101, p1, ix_nI (show 2 * i < 2 ^ 31 by omega), ix_nI (show 2 * i + 1 < 2 ^ 31 by omega), p1, show (nI (2 * i) : Int32) + 2 = nI (2 * (i + 1)) from by rw [show (2 : Int32) = nI 2 from rfl, nI_add]; rfl]
        refine ⟨vpn (by omega) (by decide), ih _ ((hA'.ua (by decide) _).ua (by decide) _) ?_ (fun j hj => ?_) ?_ (fun j hj => ?_)⟩
        · rw [um_n _ _ _ (by decide), um_n _ _ _ (by decide), hA2 100 (by decide)]; exact h0
        · rw [um_n _ _ _ (by decide), um_n _ _ _ (by decide), hA2 103 (by decide)]; exact b1 j hj
        · rw [um_n _ _ _ (by decide), um_n _ _ _ (by decide)]; exact h2
        · rw [um_s, um_s]
          by_cases q : j = 2 * i + 1
          · rw [q, pk_us, dq_o]
          · rw [pk_un q]
            by_cases q2 : j = 2 * i
            · rw [q2, pk_us, dq_e, h2]
            · rw [pk_un q2, hA2 119 (by decide)]
              exact hdue j (by omega)
    rw [eT]
    refine sX8_setAside shp_101 (by decide) shp_103 (by decide) (by decide) (by omega) (fun M1 hA1 h1 => kV_i (bX8_check_47 ?_))
    refine sX8_setAside shp_102 (by decide) shp_101 (by decide) (by decide) (by omega) (fun M2 hA2 h2 => kV_i (bX8_check_59 ?_))
    have hA' : Ag (100 :: scY) M M2 := (hA0.tr (hA1.sub (by decide))).tr (hA2.sub (by decide))
    refine loop 0 (Nat.zero_le _) M2 hA' ?_ (fun j hj => ?_) ?_ (fun j hj => absurd hj (Nat.not_lt_zero j))
    · rw [hA2 100 (by decide), hA1 100 (by decide)]; exact h00
    · rw [hA2 103 (by decide), h1]
      show (if j < 2884 then (um M 100 30 0) 101 j else _) = _
      rw [if_pos hj, e101]
    · rw [h2]
      show _ = imS M
      funext j
      show (if j < 2884 then M1 102 j else M1 101 j) = _
      rw [hA1 102 (by decide), hA1 101 (by decide), um_n _ _ _ (by decide), um_n _ _ _ (by decide)]
      rfl
  · simp only [if_neg hc] at hR
    have hB := hR _ hA0 h00 e101
    refine tX8_check ⟨fun h1 => ⟨fun h2 => absurd ⟨h1, h2⟩ hc, fun _ => hB⟩, fun _ => hB⟩
end
