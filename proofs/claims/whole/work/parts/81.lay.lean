-- lay
def Gd (M : Mem) (q k : Int32) : Prop := q = 0 ∨ q = 3 ∨ (q = 1 ∧ Rg (np (M 101)) k) ∨ (q = 2 ∧ Rg 4 k)
def LayX (M M' : Mem) (j : Nat) (q k : Int32) : Prop := Ag [80 + 3 * j, 80 + 3 * j + 1, 80 + 3 * j + 1 + 1] M M' ∧ M' (80 + 3 * j) 0 = q ∧ (q = 1 → M' (80 + 3 * j) 1 = kd (M 101) (ix k) ∧ M' (80 + 3 * j) 2 = sk (M 101) (ix k)) ∧ (q = 2 → M' (80 + 3 * j + 1) 1 = M 105 (ix k) ∧ ∀ i, i < 24 → M' (80 + 3 * j + 1 + 1) i = M 106 (24 * ix k + i)) ∧ (q = 3 → M' (80 + 3 * j) 4 = k)
def LayM (M M' : Mem) (j : Nat) (q k : Int32) : Prop := Ag [107, 108, 109, 110, 111] M M' ∧ (∀ i, i ≠ j → M' 107 i = M 107 i ∧ M' 108 i = M 108 i ∧ M' 109 i = M 109 i ∧ M' 110 i = M 110 i) ∧ (∀ i, i < 24 * j ∨ 24 * j + 24 ≤ i → M' 111 i = M 111 i) ∧ M' 107 j = q ∧ (q = 1 → M' 108 j = kd (M 101) (ix k) ∧ M' 109 j = woS (kd (M 101) (ix k)) (sk (M 101) (ix k))) ∧ (q = 2 → M' 110 j = M 105 (ix k) ∧ ∀ i, i < 24 → M' 111 (24 * j + i) = M 106 (24 * ix k + i)) ∧ (q = 3 → M' 108 j = k) ∧ (¬ q = 2 → M' 110 j = M 110 j)
theorem sk_sm {s : Nat → Int32} (hI : Inv s) {k : Nat} (hk : k < np s) : ∃ m, m < 2 ^ 14 ∧ sk s k = nI m := by
  have h14 := hI.2.1.2
  exact small_bits (n := 14) (by decide) (fun j hj => by have := (hI.2.2.2.1 k hk).2.2.2 j hj; omega)
theorem Rel.lay {M M1 M2 : Mem} {j : Nat} {q k : Int32} (h : Rel M) (hj : j < 5) (hg : Gd M q k) (h1 : LayX M M1 j q k) (h2 : LayM M1 M2 j q k) : Rel M2 := by
  obtain ⟨a1, x0, x1, x2, x3⟩ := h1
  obtain ⟨a2, y0, y1, y2, y3, y4, y5, y6⟩ := h2
  have lo : ∀ c, c < 107 → M2 c = M1 c := fun c hc => a2 c (by simp; omega)
  have hi : ∀ c, 111 < c → M2 c = M1 c := fun c hc => a2 c (by simp; omega)
  have b1 : ∀ c, c < 80 + 3 * j ∨ 80 + 3 * j + 2 < c → M1 c = M c := fun c hc => a1 c (by simp; omega)
  have al : ∀ c, c < 80 ∨ (95 ≤ c ∧ c < 107) ∨ 111 < c → M2 c = M c := fun c hc => by
    by_cases e : c < 107
    · rw [lo c e, b1 c (by omega)]
    · rw [hi c (by omega), b1 c (by omega)]
  have c101 : M1 101 = M 101 := b1 101 (by omega)
  rw [c101] at y3
  have hq : q = 0 ∨ q = 1 ∨ q = 2 ∨ q = 3 := by
    rcases hg with e | e | e | e
    · exact Or.inl e
    · exact Or.inr (Or.inr (Or.inr e))
    · exact Or.inr (Or.inl e.1)
    · exact Or.inr (Or.inr (Or.inl e.1))
  refine h.gen (fun c hc => al c (by omega)) (by rw [al 0 (by omega)]) (by rw [al 100 (by omega)]) (h.1.2.2.1.of (by rw [al 21 (by omega)]) (al 22 (by omega)) (by rw [al 100 (by omega)]) (al 114 (by omega))) (h.1.2.2.2.1.of (fun c hc => al c (by omega))) ?_ (h.1.2.2.2.2.2.of (by rw [al 0 (by omega)]) (al 63 (by omega)) (by rw [al 100 (by omega)]) (al 118 (by omega))) (h.2.2.2.1.of (by rw [al 100 (by omega)]) (al 114 (by omega))) (h.2.2.2.2.1.of (al 104 (by omega)) (al 105 (by omega))) ?_ (h.2.2.2.2.2.2.of (by rw [al 100 (by omega)]))
  · intro i hi5
    by_cases e : i = j
    · subst e
      rw [lo (80 + 3 * i) (by omega), lo (80 + 3 * i + 1) (by omega), lo (80 + 3 * i + 1 + 1) (by omega), x0, y2]
      refine ⟨rfl, fun e1 => ?_, fun e2 => ?_, fun e3 => ?_⟩
      · obtain ⟨p1, p2⟩ := x1 e1
        obtain ⟨p3, p4⟩ := y3 e1
        rw [p1, p2, p3, p4]
        have hr : Rg (np (M 101)) k := by
          rcases hg with e | e | e | e
          · rw [e1] at e; exact absurd e (by decide)
          · rw [e1] at e; exact absurd e (by decide)
          · exact e.2
          · have e := e.1; rw [e1] at e; exact absurd e (by decide)
        obtain ⟨a, ha, rfl⟩ := hr.ex
        have hp := h.2.1.1.1.2
        rw [ix_nI (by omega)]
        exact ⟨rfl, rfl, (h.2.1.1.2.2.2.1 a ha).1, sk_sm h.2.1.1 ha⟩
      · obtain ⟨p1, p2⟩ := x2 e2
        obtain ⟨p3, p4⟩ := y4 e2
        rw [p1, p3, b1 105 (by omega)]
        exact ⟨rfl, fun a ha => by rw [p2 a ha, p4 a ha, b1 106 (by omega)]⟩
      · rw [x3 e3, y5 e3]
    · obtain ⟨z1, z2, z3, z4⟩ := y0 i e
      rw [lo (80 + 3 * i) (by omega), lo (80 + 3 * i + 1) (by omega), lo (80 + 3 * i + 1 + 1) (by omega), b1 (80 + 3 * i) (by omega), b1 (80 + 3 * i + 1) (by omega), b1 (80 + 3 * i + 1 + 1) (by omega), z1, z2, z3, z4, b1 107 (by omega), b1 108 (by omega), b1 109 (by omega), b1 110 (by omega)]
      obtain ⟨r1, r2, r3, r4⟩ := h.1.2.2.2.2.1 i hi5
      exact ⟨r1, r2, fun e2 => ⟨(r3 e2).1, fun a ha => by rw [y1 _ (by omega), b1 111 (by omega)]; exact (r3 e2).2 a ha⟩, r4⟩
  · intro i hi5
    by_cases e : i = j
    · subst e
      rw [y2]
      refine ⟨hq, ?_⟩
      by_cases e2 : q = 2
      · rw [(y4 e2).1, b1 105 (by omega)]
        have hr : Rg 4 k := by
          rcases hg with e | e | e | e
          · rw [e2] at e; exact absurd e (by decide)
          · rw [e2] at e; exact absurd e (by decide)
          · have e := e.1; rw [e2] at e; exact absurd e (by decide)
          · exact e.2
        obtain ⟨a, ha, rfl⟩ := hr.ex
        rw [ix_nI (by omega)]
        exact (h.2.2.2.2.1 a ha).2
      · rw [y6 e2, b1 110 (by omega)]
        exact (h.2.2.2.2.2.1 i hi5).2
    · obtain ⟨z1, z2, z3, z4⟩ := y0 i e
      rw [z1, z4, b1 107 (by omega), b1 110 (by omega)]
      exact h.2.2.2.2.2.1 i hi5
section
variable {l : Launch} {G : GT} {D : Nat} {M : Mem} {R : Option Value → Mem → Prop} {b : Nat}
theorem X_lay {j q k : Int32} (hD : 8 ≤ D) (hRel : Rel M) (hbad : ¬ (Rg 5 j ∧ Gd M q k) → R (some (.int (-1000000001))) M) (hno : Rg 5 j → q = 2 → Rg 4 k → M 104 (ix k) = -1 → R (some (.int (-1000000011))) M) (hR : Rg 5 j → Gd M q k → (q = 2 → ¬ M 104 (ix k) = -1) → ∀ M', LayX M M' (ix j) q k → R (some (.int (M 107 (ix j)))) M') : Tr l G D mX7_lay [.ref (G.1 0), .int j, .int q, .int k] M R := by
  obtain ⟨d, rfl⟩ := dE (show 4 ≤ D by omega)
  have n1 : M 30 1 = nI (np (M 101)) := hRel.1.1.1.1.1.trans hRel.2.1.1.1.1
  have hp := hRel.2.1.1.1.2
  have B16 : ¬ (Rg 5 j ∧ Gd M q k) → At l G (d + 4) mX7_lay 16 [none, none, none, none, none, none] [] M R := fun h => bX7_lay_16 (hbad h)
  have B44 : ¬ (Rg 5 j ∧ Gd M q k) → At l G (d + 4) mX7_lay 44 [none, none, none, none, none, none] [] M R := fun h => bX7_lay_44 (hbad h)
  have main : Rg 5 j → Gd M q k → (q = 2 → ¬ M 104 (ix k) = -1) → At l G (d + 4) mX7_lay 67 [some (.ref (G.1 0)), some (.int j), some (.int q), some (.int k), none, none] [] M R := by
    intro rj hg hm
    have hR := hR rj hg hm
    obtain ⟨j, hj, rfl⟩ := rj.ex
    have xj := ix_nI (show j < 2 ^ 31 by omega)
    rw [xj] at hR
    have ho := (hRel.1.2.2.2.2.1 j (by omega)).1
    have hSl : IsSl (80 + 3 * j) := by unfold IsSl; omega
    have hSh : IsSh (80 + 3 * j + 1) := by unfold IsSh; omega
    refine bX7_lay_67 ⟨vpn (by omega) (by decide), fun h1 => ?_, fun h1 => ⟨fun h2 => ?_, fun h2 => ?_⟩⟩
    · have hr : Rg (np (M 101)) k := by
        rcases hg with e | e | e | e
        · rw [h1] at e; exact absurd e (by decide)
        · rw [h1] at e; exact absurd e (by decide)
        · exact e.2
        · have e := e.1; rw [h1] at e; exact absurd e (by decide)
      obtain ⟨a, ha, rfl⟩ := hr.ex
      have xa := ix_nI (show a < 2 ^ 31 by omega)
      rw [xj, xa, ho]
      refine ⟨vpn (by omega) (by decide), fun M6 e6 => ⟨vpn (by omega) (by decide), bX7_lay_152 (hR _ ?_)⟩⟩
      have k1 : M 31 a = kd (M 101) a := hRel.1.1.1.2.1 a (by omega)
      have k2 : M 34 a = sk (M 101) a := hRel.1.1.1.2.2.2.2.1 a (by omega)
      rw [um_n _ _ _ (by omega), k1] at e6
      have k3 : M6 34 a = sk (M 101) a := by rw [e6, um_n _ _ _ (by omega), um_n _ _ _ (by omega)]; exact k2
      rw [k3, e6]
      refine ⟨(((Ag.rf _ M).ua (by simp) _).ua (by simp) _).ua (by simp) _, ?_, fun _ => ⟨?_, ?_⟩, fun e => absurd (h1.symm.trans e) (by decide), fun e => absurd (h1.symm.trans e) (by decide)⟩
      · rw [um_s, pk_un (by decide), um_s, pk_un (by decide), um_s, pk_us]
      · rw [um_s, pk_un (by decide), um_s, pk_us, xa]
      · rw [um_s, pk_us, xa]
    · have hr : Rg 4 k := by
        rcases hg with e | e | e | e
        · rw [h2] at e; exact absurd e (by decide)
        · rw [h2] at e; exact absurd e (by decide)
        · have e := e.1; rw [h2] at e; exact absurd e (by decide)
        · exact e.2
      obtain ⟨a, ha, rfl⟩ := hr.ex
      have xa := ix_nI (show a < 2 ^ 31 by omega)
      have hs := hRel.1.2.2.2.1 a ha
      have hSa : IsSh (70 + 2 * a) := by unfold IsSh; omega
      rw [xj, xa, ho]
      refine ⟨vpn (by omega) (by decide), sX3_take hSh hSa (by omega) (by omega) (fun M' hA g0 g1 g2 => kV_i (bX7_lay_143 (bX7_lay_152 (hR _ ?_))))⟩
      rw [um_n _ _ _ (by omega)] at g1
      refine ⟨((Ag.rf _ M).ua (by simp) _).tr (hA.sub (by simp)), ?_, fun e => absurd e h1, fun _ => ⟨?_, fun i hi => ?_⟩, fun e => absurd (h2.symm.trans e) (by decide)⟩
      · rw [hA _ (by simp; omega), um_s, pk_us]
      · rw [g1, hs.2.1, xa]
      · rw [g2 i hi, um_n _ _ _ (by omega), hs.2.2 i hi, xa]
    · rw [xj, ho]
      refine bX7_lay_152 (hR _ ⟨((Ag.rf _ M).ua (by simp) _).ua (by simp) _, ?_, fun e => absurd e h1, fun e => absurd e h2, fun _ => ?_⟩)
      · rw [um_s, pk_un (by decide), um_s, pk_us]
      · rw [um_s, pk_us]
  have at47 : Rg 5 j → Gd M q k → At l G (d + 4) mX7_lay 47 [some (.ref (G.1 0)), some (.int j), some (.int q), some (.int k), none, none] [] M R := by
    intro rj hg
    refine bX7_lay_47 ⟨fun h2 => ?_, fun h2 => main rj hg (fun e => absurd e h2)⟩
    have hr : Rg 4 k := by
      rcases hg with e | e | e | e
      · rw [h2] at e; exact absurd e (by decide)
      · rw [h2] at e; exact absurd e (by decide)
      · have e := e.1; rw [h2] at e; exact absurd e (by decide)
      · exact e.2
    have hr2 := hr
    obtain ⟨a, ha, rfl⟩ := hr.ex
    have xa := ix_nI (show a < 2 ^ 31 by omega)
    have hs := hRel.1.2.2.2.1 a ha
    have hno := hno rj h2 hr2
    have main := main rj hg
    rw [xa] at hno main ⊢
    rw [hs.1]
    exact ⟨vpn ha (by decide), hno, fun h => main (fun _ => h)⟩
  have at32 : Rg 5 j → 0 ≤ q → q ≤ 3 → (q = 1 → Rg (np (M 101)) k) → At l G (d + 4) mX7_lay 32 [some (.ref (G.1 0)), some (.int j), some (.int q), some (.int k), none, none] [] M R := by
    intro rj h0 h3 h1
    refine bX7_lay_32 ⟨fun h2 => ⟨fun h => B44 (fun w => ?_), fun h4 => ⟨fun h => B44 (fun w => ?_), fun h5 => at47 rj (Or.inr (Or.inr (Or.inr ⟨h2, ?_⟩)))⟩⟩, fun h2 => at47 rj ?_⟩
    · rcases w.2 with e | e | e | e
      · rw [h2] at e; exact absurd e (by decide)
      · rw [h2] at e; exact absurd e (by decide)
      · have e := e.1; rw [h2] at e; exact absurd e (by decide)
      · have e := e.2; simp (disch := omega) only [ne_eq, not_true_eq_false, Rg, tlt, tle, teq, tnI, ts1, tl0, tl1, tl2, tl3, tl4, tl5, tl6, tl7, tl8, tl9, tl10, tl11, tl12, tl13, tl14, tl15, tl16, tl24, tl30, tl33, tl60, tl84, tl96, tl99, tl100, tl200, tlm1, t44] at h e <;> omega
    · rcases w.2 with e | e | e | e
      · rw [h2] at e; exact absurd e (by decide)
      · rw [h2] at e; exact absurd e (by decide)
      · have e := e.1; rw [h2] at e; exact absurd e (by decide)
      · have e := e.2; simp (disch := omega) only [ne_eq, not_true_eq_false, Rg, tlt, tle, teq, tnI, ts1, tl0, tl1, tl2, tl3, tl4, tl5, tl6, tl7, tl8, tl9, tl10, tl11, tl12, tl13, tl14, tl15, tl16, tl24, tl30, tl33, tl60, tl84, tl96, tl99, tl100, tl200, tlm1, t44] at h e <;> omega
    · simp (disch := omega) only [ne_eq, not_true_eq_false, Rg, tlt, tle, teq, tnI, ts1, tl0, tl1, tl2, tl3, tl4, tl5, tl6, tl7, tl8, tl9, tl10, tl11, tl12, tl13, tl14, tl15, tl16, tl24, tl30, tl33, tl60, tl84, tl96, tl99, tl100, tl200, tlm1, t44] at h4 h5 ⊢ <;> omega
    · by_cases c0 : q = 0
      · exact Or.inl c0
      · by_cases c1 : q = 1
        · exact Or.inr (Or.inr (Or.inl ⟨c1, h1 c1⟩))
        · refine Or.inr (Or.inl ?_)
          simp (disch := omega) only [ne_eq, not_true_eq_false, Rg, tlt, tle, teq, tnI, ts1, tl0, tl1, tl2, tl3, tl4, tl5, tl6, tl7, tl8, tl9, tl10, tl11, tl12, tl13, tl14, tl15, tl16, tl24, tl30, tl33, tl60, tl84, tl96, tl99, tl100, tl200, tlm1, t44] at h0 h3 h2 c0 c1 ⊢ <;> omega
  have ng : ¬ (0 ≤ q ∧ q ≤ 3) → ¬ (Rg 5 j ∧ Gd M q k) := fun h w => by
    rcases w.2 with e | e | e | e
    · rw [e] at h; exact h (by decide)
    · rw [e] at h; exact h (by decide)
    · rw [e.1] at h; exact h (by decide)
    · rw [e.1] at h; exact h (by decide)
  refine tX7_lay ⟨fun h => B16 (fun w => ?_), fun h1 => ⟨fun h => B16 (fun w => ?_), fun h2 => ?_⟩⟩
  · have w := w.1; simp (disch := omega) only [ne_eq, not_true_eq_false, Rg, tlt, tle, teq, tnI, ts1, tl0, tl1, tl2, tl3, tl4, tl5, tl6, tl7, tl8, tl9, tl10, tl11, tl12, tl13, tl14, tl15, tl16, tl24, tl30, tl33, tl60, tl84, tl96, tl99, tl100, tl200, tlm1, t44] at h w <;> omega
  · have w := w.1; simp (disch := omega) only [ne_eq, not_true_eq_false, Rg, tlt, tle, teq, tnI, ts1, tl0, tl1, tl2, tl3, tl4, tl5, tl6, tl7, tl8, tl9, tl10, tl11, tl12, tl13, tl14, tl15, tl16, tl24, tl30, tl33, tl60, tl84, tl96, tl99, tl100, tl200, tlm1, t44] at h w <;> omega
  · have rj : Rg 5 j := by simp (disch := omega) only [ne_eq, not_true_eq_false, Rg, tlt, tle, teq, tnI, ts1, tl0, tl1, tl2, tl3, tl4, tl5, tl6, tl7, tl8, tl9, tl10, tl11, tl12, tl13, tl14, tl15, tl16, tl24, tl30, tl33, tl60, tl84, tl96, tl99, tl100, tl200, tlm1, t44] at h1 h2 ⊢ <;> omega
    refine ⟨fun h => B16 (ng (fun w => Int32.not_le.mpr h w.1)), fun h3 => ⟨fun h4 => ⟨fun h5 => ⟨fun h => B44 (fun w => ?_), fun h6 => ⟨fun h => B44 (fun w => ?_), fun h7 => at32 rj (Int32.not_lt.mp h3) h4 (fun _ => ?_)⟩⟩, fun h5 => at32 rj (Int32.not_lt.mp h3) h4 (fun e => absurd e h5)⟩, fun h => B16 (ng (fun w => h w.2))⟩⟩
    · rcases w.2 with e | e | e | e
      · rw [h5] at e; exact absurd e (by decide)
      · rw [h5] at e; exact absurd e (by decide)
      · have e := e.2; simp (disch := omega) only [ne_eq, not_true_eq_false, Rg, tlt, tle, teq, tnI, ts1, tl0, tl1, tl2, tl3, tl4, tl5, tl6, tl7, tl8, tl9, tl10, tl11, tl12, tl13, tl14, tl15, tl16, tl24, tl30, tl33, tl60, tl84, tl96, tl99, tl100, tl200, tlm1, t44] at h e <;> omega
      · have e := e.1; rw [h5] at e; exact absurd e (by decide)
    · rcases w.2 with e | e | e | e
      · rw [h5] at e; exact absurd e (by decide)
      · rw [h5] at e; exact absurd e (by decide)
      · have e := e.2; rw [n1] at h; simp (disch := omega) only [ne_eq, not_true_eq_false, Rg, tlt, tle, teq, tnI, ts1, tl0, tl1, tl2, tl3, tl4, tl5, tl6, tl7, tl8, tl9, tl10, tl11, tl12, tl13, tl14, tl15, tl16, tl24, tl30, tl33, tl60, tl84, tl96, tl99, tl100, tl200, tlm1, t44] at h e <;> omega
      · have e := e.1; rw [h5] at e; exact absurd e (by decide)
    · rw [n1] at h7; simp (disch := omega) only [ne_eq, not_true_eq_false, Rg, tlt, tle, teq, tnI, ts1, tl0, tl1, tl2, tl3, tl4, tl5, tl6, tl7, tl8, tl9, tl10, tl11, tl12, tl13, tl14, tl15, tl16, tl24, tl30, tl33, tl60, tl84, tl96, tl99, tl100, tl200, tlm1, t44] at h6 h7 ⊢ <;> omega
end
