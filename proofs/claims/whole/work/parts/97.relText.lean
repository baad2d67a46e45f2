-- textTold; the two sides behind a text
theorem LR.lo {M M' : Mem} {b : Nat} {s s' : Nat → Int32} (hI : Inv s) (h : ∀ j, j ≠ 1 → j < 84 → s' j = s j) (hL : LR M b s) (h18 : M' b 18 = s' 1) (h8 : ∀ q, q < 3 → M' (b + 8) q = onS (ctS s' (nI q))) (hb : ∀ j, j ≠ 18 → M' b j = M b j) (hc : ∀ j, 1 ≤ j → j ≤ 7 → M' (b + j) = M (b + j)) : LR M' b s' := by
  have e3 : nw s' = nw s := by show ix (s' 3) = ix (s 3); rw [h 3 (by decide) (by decide)]
  have h14 := hI.2.1.2
  obtain ⟨⟨a1, a2, a3, a4, a5, a6, a7, a8, a9, a10, a11⟩, g1, g2, g3, g4, g5, g6, g7, g8⟩ := hL
  refine ⟨⟨by rw [h 0 (by decide) (by decide), hb 1 (by decide)]; exact a1, by rw [h 3 (by decide) (by decide), hb 6 (by decide)]; exact a2, ?_, by rw [h 4 (by decide) (by decide), hb 11 (by decide)]; exact a4, by rw [h 5 (by decide) (by decide), hb 12 (by decide)]; exact a5, by rw [h 6 (by decide) (by decide), hb 13 (by decide)]; exact a6, by rw [h 7 (by decide) (by decide), hb 14 (by decide)]; exact a7, by rw [h 8 (by decide) (by decide), hb 15 (by decide)]; exact a8, by rw [h 2 (by decide) (by decide), hb 16 (by decide)]; exact a9, by rw [h 9 (by decide) (by decide), hb 17 (by decide)]; exact a10, h18⟩, fun k hk => by rw [hc 1 (by decide) (by decide)]; exact (g1 k hk).trans (h _ (by omega) (by omega)).symm, fun k hk => by rw [hc 2 (by decide) (by decide)]; exact (g2 k hk).trans (h _ (by omega) (by omega)).symm, fun k hk => by rw [hc 3 (by decide) (by decide)]; exact (g3 k hk).trans (h _ (by omega) (by omega)).symm, fun k hk => by rw [hc 4 (by decide) (by decide)]; exact (g4 k hk).trans (h _ (by omega) (by omega)).symm, fun w hw => by rw [hc 5 (by decide) (by decide)]; exact (g5 w hw).trans (h _ (by omega) (by omega)).symm, fun w hw => by rw [hc 6 (by decide) (by decide)]; exact (g6 w hw).trans (h _ (by omega) (by omega)).symm, fun p hp => ?_, h8⟩
  · rw [hb 10 (by decide), a3]
    unfold stS
    rw [e3]
    exact bs_cong _ (fun w hw => by rw [show sd s' w = sd s w from h _ (by omega) (by omega)])
  · rw [hc 7 (by decide) (by decide), g7 p hp]
    unfold eIn
    rw [e3]
    refine bs_cong _ (fun w hw => ?_)
    unfold tch
    rw [show fr s' w = fr s w from h _ (by omega) (by omega), show tt s' w = tt s w from h _ (by omega) (by omega)]
theorem Inv.lo {s s' : Nat → Int32} (hI : Inv s) (h : ∀ j, j ≠ 1 → j < 84 → s' j = s j) (hT : TI s') : Inv s' := by
  have e0 : np s' = np s := by show ix (s' 0) = ix (s 0); rw [h 0 (by decide) (by decide)]
  have e3 : nw s' = nw s := by show ix (s' 3) = ix (s 3); rw [h 3 (by decide) (by decide)]
  have h8 := hI.1.2
  have h14 := hI.2.1.2
  refine ⟨⟨by rw [e0, h 0 (by decide) (by decide)]; exact hI.1.1, by rw [e0]; exact h8⟩, ⟨by rw [e3, h 3 (by decide) (by decide)]; exact hI.2.1.1, by rw [e3]; exact h14⟩, hT, fun k hk => ?_, fun w hw => ?_⟩
  · rw [e0] at hk
    rw [e3]
    have c0 : kd s' k = kd s k := h _ (by omega) (by omega)
    have c1 : pl s' k = pl s k := h _ (by omega) (by omega)
    have c2 : ag s' k = ag s k := h _ (by omega) (by omega)
    have c3 : sk s' k = sk s k := h _ (by omega) (by omega)
    rw [c0, c1, c2, c3]
    exact hI.2.2.2.1 k hk
  · rw [e3] at hw
    have c0 : fr s' w = fr s w := h _ (by omega) (by omega)
    have c1 : tt s' w = tt s w := h _ (by omega) (by omega)
    have c2 : sd s' w = sd s w := h _ (by omega) (by omega)
    rw [c0, c1, c2]
    exact hI.2.2.2.2 w hw
theorem cn_lo {s s' : Nat → Int32} {q : Int32} : ∀ n, (∀ t, t < n → s' (84 + 200 * t) = s (84 + 200 * t)) → cnS s' q n = cnS s q n
  | 0, _ => rfl
  | n + 1, h => by
    simp only [cnS]
    rw [h n (by omega), cn_lo n (fun t ht => h t (by omega))]
/-- nothing but the rows behind the texts has changed, and the tape is empty -/
theorem Rel.tf {M M1 M2 : Mem} {A : Nat} (h : Rel M) (h1 : Ag [21, 23] M M1) (h0 : M1 21 1 = 0) (h2 : FT A M1 M2) (hA : 84 + 200 * nt (M 101) ≤ A) : Rel M2 := by
  obtain ⟨f1, f2, f3, f4⟩ := h2
  have hI := h.2.1.1
  have hT := hI.2.2.1
  have h14 := hT.2.1
  have c101 : M1 101 = M 101 := h1 101 (by decide)
  have al : ∀ k, k ≠ 21 → k ≠ 23 → k ≠ 100 → k ≠ 101 → M2 k = M k := fun k a b c d => (f1 k (by simp; omega)).trans (h1 k (by simp; omega))
  have m21 : M2 21 1 = 0 := by rw [f1 21 (by decide)]; exact h0
  have lo : ∀ j, j < 84 + 200 * nt (M 101) → M2 101 j = M 101 j := fun j hj => by rw [f3 j (by omega), c101]
  have f100 : ∀ j, ¬ (15 ≤ j ∧ j ≤ 25) → M2 100 j = M 100 j := fun j hj => by rw [f2 j hj, h1 100 (by decide)]
  have ent : nt (M2 101) = nt (M 101) := by show ix (M2 101 1) = ix (M 101 1); rw [lo 1 (by omega)]
  have hT' : TI (M2 101) := by
    refine ⟨by rw [ent, lo 1 (by omega)]; exact hT.1, by rw [ent]; exact h14, fun t ht => ?_⟩
    rw [ent] at ht
    exact wfT_cong (fun j _ hj => lo j (by omega)) (hT.2.2 t ht)
  obtain ⟨⟨⟨r1, r2⟩, ⟨r3, r4⟩, ⟨r5, r6⟩, r7, r8, r9⟩, ⟨⟨i1, iw, idd, e6, e2, i8, i9⟩, i2, i3, i4, i5, i6⟩⟩ := h
  refine ⟨⟨⟨?_, ?_⟩, ⟨?_, ?_⟩, ⟨?_, ?_⟩, ?_, ?_, ?_⟩, ⟨⟨hI.lo (fun j _ hj => lo j (by omega)) hT', iw, idd, ?_, ?_, i8, i9⟩, ?_, ⟨0, by decide, f4, ?_⟩, ?_, ?_, ?_⟩⟩
  · refine r1.lo (s' := M2 101) hI (fun j _ hj => lo j (by omega)) ?_ (fun q hq => ?_) (fun j _ => by rw [al 30 (by decide) (by decide) (by decide) (by decide)]) (fun j h1 h2 => al _ (by omega) (by omega) (by omega) (by omega))
    · rw [al 30 (by decide) (by decide) (by decide) (by decide), lo 1 (by omega)]
      exact r1.1.2.2.2.2.2.2.2.2.2.2
    · rw [al 38 (by decide) (by decide) (by decide) (by decide), show M 38 q = onS (ctS (M 101) (nI q)) from r1.2.2.2.2.2.2.2.2 q hq]
      show onS (cnS (M 101) (nI q) (nt (M 101))) = onS (cnS (M2 101) (nI q) (nt (M2 101)))
      rw [ent, cn_lo _ (fun t ht => lo _ (by omega))]
  · intro t ht
    rw [ent] at ht
    have hw := LW_cong (s' := M2 101) (fun j hj hj2 => lo j (by omega)) ((hT.2.2 t ht).2.2.1) (r2 t ht)
    unfold LW at hw ⊢
    rw [al 3 (by decide) (by decide) (by decide) (by decide), al 4 (by decide) (by decide) (by decide) (by decide), al 5 (by decide) (by decide) (by decide) (by decide), al (7 + t) (by omega) (by omega) (by omega) (by omega)]
    exact hw
  · rw [al 0 (by decide) (by decide) (by decide) (by decide), f100 3 (by decide)]; exact r3
  · rw [f100 3 (by decide), al 102 (by decide) (by decide) (by decide) (by decide)]
    intro q
    exact (r4 q).of (fun j hj => al _ (by omega) (by omega) (by omega) (by omega))
  · rw [m21, f4]
  · rw [al 22 (by decide) (by decide) (by decide) (by decide), al 114 (by decide) (by decide) (by decide) (by decide)]; exact r6
  · exact RXs.of r7 (fun k hk => al k (by omega) (by omega) (by omega) (by omega))
  · exact RXo.of r8 (fun k hk => al k (by omega) (by omega) (by omega) (by omega))
  · exact RXw.of r9 (by rw [al 0 (by decide) (by decide) (by decide) (by decide)]) (al 63 (by decide) (by decide) (by decide) (by decide)) (f100 30 (by decide)) (al 118 (by decide) (by decide) (by decide) (by decide))
  · rw [lo 6 (by omega)]; exact e6
  · rw [lo 2 (by omega)]; exact e2
  · unfold II
    rw [f100 3 (by decide), al 102 (by decide) (by decide) (by decide) (by decide), ent]
    rcases i2 with q | ⟨q1, q2, q3, q4⟩
    · exact Or.inl q
    · exact Or.inr ⟨q1, q2, q3, fun j hj hj2 => by rw [lo j (by omega)]; exact q4 j hj hj2⟩
  · obtain ⟨-, -, -, h256⟩ := i3
    rw [al 114 (by decide) (by decide) (by decide) (by decide)]
    exact h256
  · exact ISh.of i4 (al 104 (by decide) (by decide) (by decide) (by decide)) (al 105 (by decide) (by decide) (by decide) (by decide))
  · exact ISl.of i5 (al 107 (by decide) (by decide) (by decide) (by decide)) (al 110 (by decide) (by decide) (by decide) (by decide))
  · exact IWt.of i6 (f100 30 (by decide))
/-- a text more -/
theorem Rel.tx {M M1 M2 : Mem} {t : Nat → Int32} {n : Nat} (h : Rel M) (ok : txOk t n) (hn : n ≤ 96) (hlt : nt (M 101) < 14) (h1 : TxX t n (nt (M 101)) M M1) (h2 : TxM t n (nt (M 101)) M1 M2) : Rel M2 := by
  obtain ⟨x1, x2, x3, x4, x5, x6, x7, x8⟩ := h1
  obtain ⟨f1, f2, f4, y1, y2, y3, y4, y5, y6⟩ := h2
  have hI := h.2.1.1
  have hT := hI.2.2.1
  have h14 := hT.2.1
  generalize eT : nt (M 101) = T at *
  have hm := (tx_QI (t := t) (n := n)).2
  have hbe := (tx_QI (t := t) (n := n)).1
  have m96 : (txR t n).2.2.1 ≤ 96 := by have := hbe.1; have := hbe.2.1; omega
  have hWF := tx_WF ok.2.1
  have kk := (ky_ok ok.1).2
  have kk' : txK t n = 0 ∨ txK t n = 1 ∨ txK t n = 2 := kk
  have c101 : M1 101 = M 101 := x1 101 (by simp; omega)
  have al : ∀ k, k ≠ 3 → k ≠ 4 → k ≠ 5 → k ≠ 7 + T → k ≠ 21 → k ≠ 23 → k ≠ 30 → k ≠ 38 → k ≠ 100 → k ≠ 101 → M2 k = M k := fun k a1 a2 a3 a4 a5 a6 a7 a8 a9 a10 => (f1 k (by simp; omega)).trans (x1 k (by simp; omega))
  have mk : ∀ k, k < 100 → M2 k = M1 k := fun k hk => f1 k (by simp; omega)
  have lo : ∀ j, j ≠ 1 → j < 84 + 200 * T → M2 101 j = M 101 j := fun j h1 hj => by rw [y6 j h1 (Or.inl hj), c101]
  have f100 : ∀ j, ¬ (15 ≤ j ∧ j ≤ 25) → M2 100 j = M 100 j := fun j hj => by rw [f2 j hj, x1 100 (by simp; omega)]
  have ent : nt (M2 101) = T + 1 := by show ix (M2 101 1) = _; rw [y1, ix_nI (by omega)]
  have many : tMany (M2 101) T = (txR t n).2.2.1 := by show ix (M2 101 (86 + 200 * T)) = _; rw [y4, ix_nI (by omega)]
  have hWf : WfT (M2 101) T := by
    have hh : ∀ i, i ≤ (txR t n).2.2.1 → hgS (M2 101) T i = gH (txR t n).2.2.2.1 (txR t n).2.2.2.2.1 i := by
      intro i
      induction i with
      | zero => intro _; rfl
      | succ i ih =>
        intro hi
        rw [gH_s]
        show (if tWh (M2 101) T i = 2 then (if tVa (M2 101) T i = 33 then hgS (M2 101) T i else hgS (M2 101) T i - 1) else hgS (M2 101) T i + 1) = _
        rw [show tWh (M2 101) T i = _ from (y5 i (by omega)).1, show tVa (M2 101) T i = _ from (y5 i (by omega)).2, ih (by omega)]
    refine ⟨by rw [y2]; exact kk', by rw [many]; exact y4, by rw [many]; exact m96, by rw [many, hh _ (Nat.le_refl _)]; exact hWF.2, fun i hi => ?_⟩
    rw [many] at hi
    have g := hWF.1 i hi
    rw [show tWh (M2 101) T i = _ from (y5 i hi).1, show tVa (M2 101) T i = _ from (y5 i hi).2, y2, hh i (by omega)]
    exact g
  have hT' : TI (M2 101) := by
    refine ⟨by rw [ent]; exact y1, by rw [ent]; omega, fun t ht => ?_⟩
    rw [ent] at ht
    by_cases e : t = T
    · rw [e]; exact hWf
    · exact wfT_cong (fun j _ hj => lo j (by omega) (by omega)) (hT.2.2 t (by rw [eT]; omega))
  obtain ⟨⟨⟨r1, r2⟩, ⟨r3, r4⟩, ⟨r5, r6⟩, r7, r8, r9⟩, ⟨⟨i1, iw, idd, e6, e2, i8, i9⟩, i2, i3, i4, i5, i6⟩⟩ := h
  refine ⟨⟨⟨?_, ?_⟩, ⟨?_, ?_⟩, ⟨?_, ?_⟩, ?_, ?_, ?_⟩, ⟨⟨hI.lo (fun j h1 hj => lo j h1 (by omega)) hT', iw, idd, ?_, ?_, i8, i9⟩, ?_, ⟨0, by decide, f4, ?_⟩, ?_, ?_, ?_⟩⟩
  · refine r1.lo (s' := M2 101) hI (fun j h1 hj => lo j h1 (by omega)) ?_ (fun q hq => ?_) (fun j hj => by rw [mk 30 (by decide), x7, pk_un hj]) (fun j h1 h2 => al _ (by omega) (by omega) (by omega) (by omega) (by omega) (by omega) (by omega) (by omega) (by omega) (by omega))
    · rw [mk 30 (by decide), x7, pk_us, y1]
    · rw [mk 38 (by decide), x8]
      show _ = onS (cnS (M2 101) (nI q) (nt (M2 101)))
      rw [ent]
      simp only [cnS]
      rw [y2]
      have eq : txK t n = nI q ↔ q = ix (txK t n) := by
        rcases kk' with g | g | g <;> rw [g]
        · exact (nI_eq (a := 0) (b := q) (by decide) (by omega)).trans ⟨fun z => by rw [← z]; rfl, fun z => by rw [z]; rfl⟩
        · exact (nI_eq (a := 1) (b := q) (by decide) (by omega)).trans ⟨fun z => by rw [← z]; rfl, fun z => by rw [z]; rfl⟩
        · exact (nI_eq (a := 2) (b := q) (by decide) (by omega)).trans ⟨fun z => by rw [← z]; rfl, fun z => by rw [z]; rfl⟩
      by_cases c : q = ix (txK t n)
      · rw [if_pos (eq.mpr c), c, pk_us]
        unfold onS
        rw [if_neg (Int32.not_lt.mpr (zl T (by omega)))]
      · rw [if_neg (fun z => c (eq.mp z)), pk_un c, show M 38 q = onS (ctS (M 101) (nI q)) from r1.2.2.2.2.2.2.2.2 q hq]
        show onS (cnS (M 101) (nI q) (nt (M 101))) = _
        rw [eT, cn_lo T (fun t ht => lo _ (by omega) (by omega))]
  · intro t' ht
    rw [ent] at ht
    by_cases e : t' = T
    · rw [e]
      unfold LW
      rw [mk 3 (by decide), mk 4 (by decide), mk 5 (by decide), mk (7 + T) (by omega), x3, x4, x5, pk_us, pk_us, pk_us, many]
      refine ⟨y4.symm, y2.symm, y3.symm, fun i hi => ?_⟩
      rw [x6 i hi, show tWh (M2 101) T i = _ from (y5 i hi).1, show tVa (M2 101) T i = _ from (y5 i hi).2]
    · have ht2 : t' < nt (M 101) := by rw [eT]; omega
      have hw := LW_cong (s' := M2 101) (fun j hj hj2 => lo j (by omega) (by omega)) ((hT.2.2 t' ht2).2.2.1) (r2 t' ht2)
      unfold LW at hw ⊢
      rw [mk 3 (by decide), mk 4 (by decide), mk 5 (by decide), x3, x4, x5, pk_un e, pk_un e, pk_un e, al (7 + t') (by omega) (by omega) (by omega) (by omega) (by omega) (by omega) (by omega) (by omega) (by omega) (by omega)]
      exact hw
  · rw [al 0 (by decide) (by decide) (by decide) (by omega) (by decide) (by decide) (by decide) (by decide) (by decide) (by decide), f100 3 (by decide)]; exact r3
  · rw [f100 3 (by decide), al 102 (by decide) (by decide) (by decide) (by omega) (by decide) (by decide) (by decide) (by decide) (by decide) (by decide)]
    intro q
    exact (r4 q).of (fun j hj => al _ (by omega) (by omega) (by omega) (by omega) (by omega) (by omega) (by omega) (by omega) (by omega) (by omega))
  · rw [mk 21 (by decide), x2, f4]
  · rw [al 22 (by decide) (by decide) (by decide) (by omega) (by decide) (by decide) (by decide) (by decide) (by decide) (by decide), al 114 (by decide) (by decide) (by decide) (by omega) (by decide) (by decide) (by decide) (by decide) (by decide) (by decide)]; exact r6
  · exact RXs.of r7 (fun k hk => al k (by omega) (by omega) (by omega) (by omega) (by omega) (by omega) (by omega) (by omega) (by omega) (by omega))
  · exact RXo.of r8 (fun k hk => al k (by omega) (by omega) (by omega) (by omega) (by omega) (by omega) (by omega) (by omega) (by omega) (by omega))
  · exact RXw.of r9 (by rw [al 0 (by decide) (by decide) (by decide) (by omega) (by decide) (by decide) (by decide) (by decide) (by decide) (by decide)]) (al 63 (by decide) (by decide) (by decide) (by omega) (by decide) (by decide) (by decide) (by decide) (by decide) (by decide)) (f100 30 (by decide)) (al 118 (by decide) (by decide) (by decide) (by omega) (by decide) (by decide) (by decide) (by decide) (by decide) (by decide))
  · rw [lo 6 (by decide) (by omega)]; exact e6
  · rw [lo 2 (by decide) (by omega)]; exact e2
  · unfold II
    rw [f100 3 (by decide), al 102 (by decide) (by decide) (by decide) (by omega) (by decide) (by decide) (by decide) (by decide) (by decide) (by decide), ent]
    rcases i2 with q | ⟨q1, q2, q3, q4⟩
    · exact Or.inl q
    · exact Or.inr ⟨q1, q2, by omega, fun j hj hj2 => by rw [lo j (by omega) (by omega)]; exact q4 j hj hj2⟩
  · obtain ⟨-, -, -, h256⟩ := i3
    rw [al 114 (by decide) (by decide) (by decide) (by omega) (by decide) (by decide) (by decide) (by decide) (by decide) (by decide)]
    exact h256
  · exact ISh.of i4 (al 104 (by decide) (by decide) (by decide) (by omega) (by decide) (by decide) (by decide) (by decide) (by decide) (by decide)) (al 105 (by decide) (by decide) (by decide) (by omega) (by decide) (by decide) (by decide) (by decide) (by decide) (by decide))
  · exact ISl.of i5 (al 107 (by decide) (by decide) (by decide) (by omega) (by decide) (by decide) (by decide) (by decide) (by decide) (by decide)) (al 110 (by decide) (by decide) (by decide) (by omega) (by decide) (by decide) (by decide) (by decide) (by decide) (by decide))
  · exact IWt.of i6 (f100 30 (by decide))
section
variable {l : Launch} {G : GT} {D : Nat} {M : Mem} {R : Option Value → Mem → Prop}
def anTextTold (s : Nat → Int32) (x q : Int32) : Int32 := if Rg (nt s) x ∧ Rg 2 q then (if q = 0 then s (84 + 200 * ix x) else s (85 + 200 * ix x)) else (-1000000001)
theorem X_textTold {x q : Int32} (hD : 4 ≤ D) (hRel : Rel M) (hR : R (some (.int (anTextTold (M 101) x q))) M) : Tr l G D mX7_textTold [.ref (G.1 0), .int x, .int q] M R := by
  obtain ⟨d, rfl⟩ := dE hD
  have hT := hRel.2.1.1.2.2.1
  have h14 := hT.2.1
  have e18 : M 30 18 = nI (nt (M 101)) := hRel.1.1.1.1.2.2.2.2.2.2.2.2.2.2.trans hT.1
  unfold anTextTold at hR
  by_cases hc : Rg (nt (M 101)) x ∧ Rg 2 q
  · rw [if_pos hc] at hR
    obtain ⟨x, hx, rfl⟩ := hc.1.ex
    have xx := ix_nI (show x < 2 ^ 31 by omega)
    rw [xx] at hR
    have hw := hRel.1.1.2 x hx
    refine tX7_textTold ⟨fun h => absurd hc (fun w => ?_), fun h1 => ⟨fun h => absurd hc (fun w => ?_), fun h2 => ⟨fun h => absurd hc (fun w => ?_), fun h3 => ⟨fun h4 => ?_, fun h => absurd hc (fun w => ?_)⟩⟩⟩⟩
    · have w := w.1; simp (disch := omega) only [ne_eq, not_true_eq_false, Rg, tlt, tle, teq, tnI, ts1, tl0, tl1, tl2, tl3, tl4, tl5, tl6, tl7, tl8, tl9, tl10, tl11, tl12, tl13, tl14, tl15, tl16, tl24, tl30, tl33, tl60, tl84, tl96, tl99, tl100, tl200, tlm1, t44] at h w <;> omega
    · have w := w.1; rw [e18] at h; simp (disch := omega) only [ne_eq, not_true_eq_false, Rg, tlt, tle, teq, tnI, ts1, tl0, tl1, tl2, tl3, tl4, tl5, tl6, tl7, tl8, tl9, tl10, tl11, tl12, tl13, tl14, tl15, tl16, tl24, tl30, tl33, tl60, tl84, tl96, tl99, tl100, tl200, tlm1, t44] at h w <;> omega
    · have w := w.2; simp (disch := omega) only [ne_eq, not_true_eq_false, Rg, tlt, tle, teq, tnI, ts1, tl0, tl1, tl2, tl3, tl4, tl5, tl6, tl7, tl8, tl9, tl10, tl11, tl12, tl13, tl14, tl15, tl16, tl24, tl30, tl33, tl60, tl84, tl96, tl99, tl100, tl200, tlm1, t44] at h w <;> omega
    · rw [xx]
      refine ⟨fun h0 => ⟨vpn (by omega) (by decide), ?_⟩, fun h0 => ⟨vpn (by omega) (by decide), ?_⟩⟩
      · rw [if_pos h0] at hR; rw [hw.2.1]; exact hR
      · rw [if_neg h0] at hR; rw [hw.2.2.1]; exact hR
    · have w := w.2; simp (disch := omega) only [ne_eq, not_true_eq_false, Rg, tlt, tle, teq, tnI, ts1, tl0, tl1, tl2, tl3, tl4, tl5, tl6, tl7, tl8, tl9, tl10, tl11, tl12, tl13, tl14, tl15, tl16, tl24, tl30, tl33, tl60, tl84, tl96, tl99, tl100, tl200, tlm1, t44] at h w <;> omega
  · rw [if_neg hc] at hR
    refine tX7_textTold ⟨fun h => hR, fun h1 => ⟨fun h => hR, fun h2 => ⟨fun h => hR, fun h3 => ⟨fun h4 => absurd (show Rg (nt (M 101)) x ∧ Rg 2 q from ⟨?_, ?_⟩) hc, fun h => hR⟩⟩⟩⟩
    · rw [e18] at h2; simp (disch := omega) only [ne_eq, not_true_eq_false, Rg, tlt, tle, teq, tnI, ts1, tl0, tl1, tl2, tl3, tl4, tl5, tl6, tl7, tl8, tl9, tl10, tl11, tl12, tl13, tl14, tl15, tl16, tl24, tl30, tl33, tl60, tl84, tl96, tl99, tl100, tl200, tlm1, t44] at h1 h2 ⊢ <;> omega
    · simp (disch := omega) only [ne_eq, not_true_eq_false, Rg, tlt, tle, teq, tnI, ts1, tl0, tl1, tl2, tl3, tl4, tl5, tl6, tl7, tl8, tl9, tl10, tl11, tl12, tl13, tl14, tl15, tl16, tl24, tl30, tl33, tl60, tl84, tl96, tl99, tl100, tl200, tlm1, t44] at h3 h4 ⊢ <;> omega
theorem M_textTold {x q : Int32} (hD : 4 ≤ D) (hIS : IS M) (hR : R (some (.int (anTextTold (M 101) x q))) M) : Tr l G D mX8_textTold [.ref (G.1 100), .int x, .int q] M R := by
  obtain ⟨d, rfl⟩ := dE hD
  have hT := hIS.1.1.2.2.1
  have h14 := hT.2.1
  have e18 : M 101 1 = nI (nt (M 101)) := hT.1
  unfold anTextTold at hR
  by_cases hc : Rg (nt (M 101)) x ∧ Rg 2 q
  · rw [if_pos hc] at hR
    obtain ⟨x, hx, rfl⟩ := hc.1.ex
    have xx := ix_nI (show x < 2 ^ 31 by omega)
    rw [xx] at hR
    obtain ⟨q, hq, rfl⟩ := hc.2.ex
    have ea : 84 + 200 * nI x + nI q = nI (84 + 200 * x + q) := by
      show nI 84 + nI 200 * nI x + nI q = _
      rw [pk_mul, nI_add, nI_add]
    refine tX8_textTold ⟨fun h1 => ⟨fun h2 => ⟨fun h3 => ⟨fun h4 => ?_, fun h => absurd hc (fun w => ?_)⟩, fun h => absurd hc (fun w => ?_)⟩, fun h => absurd hc (fun w => ?_)⟩, fun h => absurd hc (fun w => ?_)⟩
    · rw [ea, ix_nI (by omega)]
      refine ⟨vpn (by omega) (by decide), ?_⟩
      by_cases h0 : q = 0
      · subst h0
        rw [if_pos (show nI 0 = 0 from rfl)] at hR
        exact hR
      · have e1 : q = 1 := by omega
        subst e1
        rw [if_neg (by decide)] at hR
        rw [show 84 + 200 * x + 1 = 85 + 200 * x by omega]
        exact hR
    · have w := w.2; simp (disch := omega) only [ne_eq, not_true_eq_false, Rg, tlt, tle, teq, tnI, ts1, tl0, tl1, tl2, tl3, tl4, tl5, tl6, tl7, tl8, tl9, tl10, tl11, tl12, tl13, tl14, tl15, tl16, tl24, tl30, tl33, tl60, tl84, tl96, tl99, tl100, tl200, tlm1, t44] at h w <;> omega
    · have w := w.2; simp (disch := omega) only [ne_eq, not_true_eq_false, Rg, tlt, tle, teq, tnI, ts1, tl0, tl1, tl2, tl3, tl4, tl5, tl6, tl7, tl8, tl9, tl10, tl11, tl12, tl13, tl14, tl15, tl16, tl24, tl30, tl33, tl60, tl84, tl96, tl99, tl100, tl200, tlm1, t44] at h w <;> omega
    · have w := w.1; rw [e18] at h; simp (disch := omega) only [ne_eq, not_true_eq_false, Rg, tlt, tle, teq, tnI, ts1, tl0, tl1, tl2, tl3, tl4, tl5, tl6, tl7, tl8, tl9, tl10, tl11, tl12, tl13, tl14, tl15, tl16, tl24, tl30, tl33, tl60, tl84, tl96, tl99, tl100, tl200, tlm1, t44] at h w <;> omega
    · have w := w.1; simp (disch := omega) only [ne_eq, not_true_eq_false, Rg, tlt, tle, teq, tnI, ts1, tl0, tl1, tl2, tl3, tl4, tl5, tl6, tl7, tl8, tl9, tl10, tl11, tl12, tl13, tl14, tl15, tl16, tl24, tl30, tl33, tl60, tl84, tl96, tl99, tl100, tl200, tlm1, t44] at h w <;> omega
  · rw [if_neg hc] at hR
    refine tX8_textTold ⟨fun h1 => ⟨fun h2 => ⟨fun h3 => ⟨fun h4 => absurd (show Rg (nt (M 101)) x ∧ Rg 2 q from ⟨?_, ?_⟩) hc, fun h => hR⟩, fun h => hR⟩, fun h => hR⟩, fun h => hR⟩
    · rw [e18] at h2; simp (disch := omega) only [ne_eq, not_true_eq_false, Rg, tlt, tle, teq, tnI, ts1, tl0, tl1, tl2, tl3, tl4, tl5, tl6, tl7, tl8, tl9, tl10, tl11, tl12, tl13, tl14, tl15, tl16, tl24, tl30, tl33, tl60, tl84, tl96, tl99, tl100, tl200, tlm1, t44] at h1 h2 ⊢ <;> omega
    · simp (disch := omega) only [ne_eq, not_true_eq_false, Rg, tlt, tle, teq, tnI, ts1, tl0, tl1, tl2, tl3, tl4, tl5, tl6, tl7, tl8, tl9, tl10, tl11, tl12, tl13, tl14, tl15, tl16, tl24, tl30, tl33, tl60, tl84, tl96, tl99, tl100, tl200, tlm1, t44] at h3 h4 ⊢ <;> omega
end
