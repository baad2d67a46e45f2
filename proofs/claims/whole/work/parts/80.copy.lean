-- copy
def Fit (n : Nat) (p m : Int32) : Prop := 0 ≤ p.toInt ∧ 0 ≤ m.toInt ∧ p.toInt + m.toInt ≤ (n : Int)
theorem Fit.ex {n : Nat} {p m : Int32} (h : Fit n p m) : ∃ a c, p = nI a ∧ m = nI c ∧ a + c ≤ n := by
  obtain ⟨h1, h2, h3⟩ := h
  have b1 := p.toInt_lt
  have b2 := m.toInt_lt
  refine ⟨p.toInt.toNat, m.toInt.toNat, ?_, ?_, by omega⟩
  · rw [teq, tnI (by omega)]; omega
  · rw [teq, tnI (by omega)]; omega
theorem sub_n {n : Nat} {p : Int32} (hn : n ≤ 24) (h0 : 0 ≤ p.toInt) (h1 : p.toInt ≤ (n : Int)) : (nI n - p).toInt = (n : Int) - p.toInt := by
  have e : p = nI p.toInt.toNat := by rw [teq, tnI (by omega)]; omega
  rw [e, pk_sub_toInt (by omega) (by omega), tnI (by omega)]
theorem cmp64 (a b c : Int32) (h : 0 ≤ a.toInt) (h2 : 0 ≤ b.toInt) : (a.toInt64 + b.toInt64).toInt = a.toInt + b.toInt := by
  have b1 := a.toInt_lt
  have b2 := b.toInt_lt
  rw [Int64.toInt_add, Int32.toInt_toInt64, Int32.toInt_toInt64]
  exact Int.bmod_eq_of_le (by omega) (by omega)
theorem cmp_gt (a b c : Int32) (h : 0 ≤ a.toInt) (h2 : 0 ≤ b.toInt) : (0 < lg_cmp (a.toInt64 + b.toInt64) c.toInt64) ↔ c.toInt < a.toInt + b.toInt := by
  rw [lg_cmp_gt, Int64.lt_iff_toInt_lt, cmp64 a b c h h2, Int32.toInt_toInt64]
theorem cmp_le (a b c : Int32) (h : 0 ≤ a.toInt) (h2 : 0 ≤ b.toInt) : (lg_cmp (a.toInt64 + b.toInt64) c.toInt64 ≤ 0) ↔ a.toInt + b.toInt ≤ c.toInt := by
  have := cmp_gt a b c h h2
  rw [← Int32.not_lt, this]
  omega
section
variable {l : Launch} {G : GT} {D : Nat} {M : Mem} {R : Option Value → Mem → Prop} {b : Nat}
theorem sX3_hasPlaces {p m : Int32} {n : Nat} (hb : IsSh b) (hD : 4 ≤ D) (hn : n ≤ 24) (e : M b 1 = nI n) (h1 : Fit n p m → R (some (.int 1)) M) (h0 : ¬ Fit n p m → R (some (.int 0)) M) : Tr l G D mX3_hasPlaces [.ref (G.1 b), .int p, .int m] M R := by
  obtain ⟨d, rfl⟩ := dE hD
  refine tX3_hasPlaces hb ?_
  rw [e]
  have b2 := m.toInt_lt
  refine ⟨fun h => h0 (fun q => ?_), fun ha => ⟨fun h => h0 (fun q => ?_), fun hc => ⟨fun h => h0 (fun q => ?_), fun he => ?_⟩⟩⟩
  · have q1 := q.1; simp (disch := omega) only [ne_eq, not_true_eq_false, Rg, tlt, tle, teq, tnI, ts1, tl0, tl1, tl2, tl3, tl4, tl5, tl6, tl7, tl8, tl9, tl10, tl11, tl12, tl13, tl14, tl15, tl16, tl24, tl30, tl33, tl60, tl84, tl96, tl99, tl100, tl200, tlm1, t44] at h q1 <;> omega
  · have q1 := q.2.1; simp (disch := omega) only [ne_eq, not_true_eq_false, Rg, tlt, tle, teq, tnI, ts1, tl0, tl1, tl2, tl3, tl4, tl5, tl6, tl7, tl8, tl9, tl10, tl11, tl12, tl13, tl14, tl15, tl16, tl24, tl30, tl33, tl60, tl84, tl96, tl99, tl100, tl200, tlm1, t44] at h q1 <;> omega
  · have q1 := q.2; simp (disch := omega) only [ne_eq, not_true_eq_false, Rg, tlt, tle, teq, tnI, ts1, tl0, tl1, tl2, tl3, tl4, tl5, tl6, tl7, tl8, tl9, tl10, tl11, tl12, tl13, tl14, tl15, tl16, tl24, tl30, tl33, tl60, tl84, tl96, tl99, tl100, tl200, tlm1, t44] at h q1 <;> omega
  · simp (disch := omega) only [tlt, tle, tnI, tl0] at ha hc he
    have s := sub_n (n := n) (p := p) hn (by omega) (by omega)
    rw [tlt, s]
    exact ⟨fun h => h0 (fun q => by have := q.2.2; omega), fun h => h1 ⟨by omega, by omega, by omega⟩⟩
theorem X_copy {a p c t m : Int32} (hD : 8 ≤ D) (hRel : Rel M) (hbad : ¬ (Rg 4 a ∧ Rg 4 c) → R (some (.int (-1000000001))) M) (hno : Rg 4 a → Rg 4 c → (M 104 (ix a) = -1 ∨ M 104 (ix c) = -1) → R (some (.int (-1000000011))) M) (hkd : Rg 4 a → Rg 4 c → ¬ M 104 (ix a) = -1 → ¬ M 104 (ix c) = -1 → ¬ M 104 (ix a) = M 104 (ix c) → R (some (.int (-1000000012))) M) (hix : Rg 4 a → Rg 4 c → ¬ M 104 (ix a) = -1 → ¬ M 104 (ix c) = -1 → M 104 (ix a) = M 104 (ix c) → ¬ (Fit (ix (M 105 (ix a))) p m ∧ Fit (ix (M 105 (ix c))) t m) → R (some (.int (-1000000013))) M) (hR : Rg 4 a → Rg 4 c → ¬ M 104 (ix a) = -1 → ¬ M 104 (ix c) = -1 → M 104 (ix a) = M 104 (ix c) → Fit (ix (M 105 (ix a))) p m → Fit (ix (M 105 (ix c))) t m → R (some (.int m)) (ua M (70 + 2 * ix c + 1) (va_cpy (M (70 + 2 * ix a + 1)) (M (70 + 2 * ix c + 1)) (ix p) (ix t) (ix m)))) : Tr l G D mX7_copy [.ref (G.1 0), .int a, .int p, .int c, .int t, .int m] M R := by
  obtain ⟨d, rfl⟩ := dE (show 4 ≤ D by omega)
  refine tX7_copy ⟨fun h => hbad (fun q => ?_), fun h1 => ⟨fun h => hbad (fun q => ?_), fun h2 => ⟨fun h => hbad (fun q => ?_), fun h3 => ⟨fun h => hbad (fun q => ?_), fun h4 => ?_⟩⟩⟩⟩
  · have q := q.1; simp (disch := omega) only [ne_eq, not_true_eq_false, Rg, tlt, tle, teq, tnI, ts1, tl0, tl1, tl2, tl3, tl4, tl5, tl6, tl7, tl8, tl9, tl10, tl11, tl12, tl13, tl14, tl15, tl16, tl24, tl30, tl33, tl60, tl84, tl96, tl99, tl100, tl200, tlm1, t44] at h q <;> omega
  · have q := q.1; simp (disch := omega) only [ne_eq, not_true_eq_false, Rg, tlt, tle, teq, tnI, ts1, tl0, tl1, tl2, tl3, tl4, tl5, tl6, tl7, tl8, tl9, tl10, tl11, tl12, tl13, tl14, tl15, tl16, tl24, tl30, tl33, tl60, tl84, tl96, tl99, tl100, tl200, tlm1, t44] at h q <;> omega
  · have q := q.2; simp (disch := omega) only [ne_eq, not_true_eq_false, Rg, tlt, tle, teq, tnI, ts1, tl0, tl1, tl2, tl3, tl4, tl5, tl6, tl7, tl8, tl9, tl10, tl11, tl12, tl13, tl14, tl15, tl16, tl24, tl30, tl33, tl60, tl84, tl96, tl99, tl100, tl200, tlm1, t44] at h q <;> omega
  · have q := q.2; simp (disch := omega) only [ne_eq, not_true_eq_false, Rg, tlt, tle, teq, tnI, ts1, tl0, tl1, tl2, tl3, tl4, tl5, tl6, tl7, tl8, tl9, tl10, tl11, tl12, tl13, tl14, tl15, tl16, tl24, tl30, tl33, tl60, tl84, tl96, tl99, tl100, tl200, tlm1, t44] at h q <;> omega
  · have ra : Rg 4 a := by simp (disch := omega) only [ne_eq, not_true_eq_false, Rg, tlt, tle, teq, tnI, ts1, tl0, tl1, tl2, tl3, tl4, tl5, tl6, tl7, tl8, tl9, tl10, tl11, tl12, tl13, tl14, tl15, tl16, tl24, tl30, tl33, tl60, tl84, tl96, tl99, tl100, tl200, tlm1, t44] at h1 h2 ⊢ <;> omega
    have rc : Rg 4 c := by simp (disch := omega) only [ne_eq, not_true_eq_false, Rg, tlt, tle, teq, tnI, ts1, tl0, tl1, tl2, tl3, tl4, tl5, tl6, tl7, tl8, tl9, tl10, tl11, tl12, tl13, tl14, tl15, tl16, tl24, tl30, tl33, tl60, tl84, tl96, tl99, tl100, tl200, tlm1, t44] at h3 h4 ⊢ <;> omega
    clear h1 h2 h3 h4 hbad
    obtain ⟨a, ha, rfl⟩ := ra.ex
    obtain ⟨c, hc, rfl⟩ := rc.ex
    have xa := ix_nI (show a < 2 ^ 31 by omega)
    have xc := ix_nI (show c < 2 ^ 31 by omega)
    simp only [xa, xc] at hno hkd hix hR ⊢
    have hs := hRel.1.2.2.2.1 a ha
    have hs2 := hRel.1.2.2.2.1 c hc
    obtain ⟨n, hn, en⟩ := (hRel.2.2.2.2.1 a ha).2
    obtain ⟨n2, hn2, en2⟩ := (hRel.2.2.2.2.1 c hc).2
    rw [en, en2, ix_nI (show n < 2 ^ 31 by omega), ix_nI (show n2 < 2 ^ 31 by omega)] at hix hR
    have sa : IsSh (70 + 2 * a) := by unfold IsSh; omega
    have sc : IsSh (70 + 2 * c) := by unfold IsSh; omega
    refine ⟨vpn ha (by decide), vpn hc (by decide), ?_⟩
    rw [hs.1, hs2.1]
    refine ⟨fun h => hno ra rc (Or.inl h), fun h5 => ⟨fun h => hno ra rc (Or.inr h), fun h6 => ⟨fun h7 => ?_, fun h => hkd ra rc h5 h6 h⟩⟩⟩
    have hix := hix ra rc h5 h6 h7
    refine sX3_hasPlaces sa (by omega) hn (hs.2.1.trans en) (fun f1 => kI_i (bX7_copy_76 sa sc ⟨fun h => absurd h (by decide), fun _ => ?_⟩)) (fun f1 => kI_i (bX7_copy_76 sa sc ⟨fun _ => hix (fun q => f1 q.1), fun h => absurd rfl h⟩))
    refine sX3_hasPlaces sc (by omega) hn2 (hs2.2.1.trans en2) (fun f2 => kI_i (bX7_copy_88 sa sc ⟨fun h => absurd h (by decide), fun _ => ?_⟩)) (fun f2 => kI_i (bX7_copy_88 sa sc ⟨fun _ => hix (fun q => f2 q.2), fun h => absurd rfl h⟩))
    have hR := hR ra rc h5 h6 h7 f1 f2
    obtain ⟨p', m', rfl, rfl, l1⟩ := f1.ex
    obtain ⟨t', m2, rfl, em, l2⟩ := f2.ex
    have l3 : m' ≤ 24 := by omega
    have em' : m' = m2 := by
      have z := f2.2.2
      have z1 := f2.1
      rw [teq] at em
      have k1 : m2 < 2 ^ 31 := by omega
      rw [tnI (by omega), tnI k1] at em
      omega
    subst em'
    rw [ix_nI (show p' < 2 ^ 31 by omega), ix_nI (show t' < 2 ^ 31 by omega), ix_nI (show m' < 2 ^ 31 by omega)] at hR ⊢
    refine ⟨Int32.not_lt.mpr (zl _ (by omega)), Int32.not_lt.mpr (zl _ (by omega)), Int32.not_lt.mpr (zl _ (by omega)), by omega, by omega, fun M7 e7 => ?_⟩
    rw [e7]
    exact hR
theorem i24p {k j i : Nat} (hk : k < 4) (hj : j + i < 24) : 24 * nI k + nI j + nI i = nI (24 * k + j + i) := by
  rw [i24b hk (by omega), nI_add]
theorem M_copy {a p c t m : Int32} (hD : 4 ≤ D) (hIS : IS M) (hbad : ¬ (Rg 4 a ∧ Rg 4 c) → R (some (.int (-1000000001))) M) (hno : Rg 4 a → Rg 4 c → (M 104 (ix a) = -1 ∨ M 104 (ix c) = -1) → R (some (.int (-1000000011))) M) (hkd : Rg 4 a → Rg 4 c → ¬ M 104 (ix a) = -1 → ¬ M 104 (ix c) = -1 → ¬ M 104 (ix a) = M 104 (ix c) → R (some (.int (-1000000012))) M) (hix : Rg 4 a → Rg 4 c → ¬ M 104 (ix a) = -1 → ¬ M 104 (ix c) = -1 → M 104 (ix a) = M 104 (ix c) → ¬ (Fit (ix (M 105 (ix a))) p m ∧ Fit (ix (M 105 (ix c))) t m) → R (some (.int (-1000000013))) M) (hR : Rg 4 a → Rg 4 c → ¬ M 104 (ix a) = -1 → ¬ M 104 (ix c) = -1 → M 104 (ix a) = M 104 (ix c) → Fit (ix (M 105 (ix a))) p m → Fit (ix (M 105 (ix c))) t m → ∀ M', Ag [106, 117] M M' → M' 106 = (fun i => if 24 * ix c + ix t ≤ i ∧ i < 24 * ix c + ix t + ix m then M 106 (24 * ix a + ix p + (i - (24 * ix c + ix t))) else M 106 i) → R (some (.int m)) M') : Tr l G D mX8_copy [.ref (G.1 100), .int a, .int p, .int c, .int t, .int m] M R := by
  obtain ⟨d, rfl⟩ := dE (show 4 ≤ D by omega)
  refine tX8_copy ⟨fun h1 => ⟨fun h2 => ⟨fun h3 => ⟨fun h4 => ?_, fun h => hbad (fun q => ?_)⟩, fun h => hbad (fun q => ?_)⟩, fun h => hbad (fun q => ?_)⟩, fun h => hbad (fun q => ?_)⟩
  rotate_left
  · have q := q.2; simp (disch := omega) only [ne_eq, not_true_eq_false, Rg, tlt, tle, teq, tnI, ts1, tl0, tl1, tl2, tl3, tl4, tl5, tl6, tl7, tl8, tl9, tl10, tl11, tl12, tl13, tl14, tl15, tl16, tl24, tl30, tl33, tl60, tl84, tl96, tl99, tl100, tl200, tlm1, t44] at h q <;> omega
  · have q := q.2; simp (disch := omega) only [ne_eq, not_true_eq_false, Rg, tlt, tle, teq, tnI, ts1, tl0, tl1, tl2, tl3, tl4, tl5, tl6, tl7, tl8, tl9, tl10, tl11, tl12, tl13, tl14, tl15, tl16, tl24, tl30, tl33, tl60, tl84, tl96, tl99, tl100, tl200, tlm1, t44] at h q <;> omega
  · have q := q.1; simp (disch := omega) only [ne_eq, not_true_eq_false, Rg, tlt, tle, teq, tnI, ts1, tl0, tl1, tl2, tl3, tl4, tl5, tl6, tl7, tl8, tl9, tl10, tl11, tl12, tl13, tl14, tl15, tl16, tl24, tl30, tl33, tl60, tl84, tl96, tl99, tl100, tl200, tlm1, t44] at h q <;> omega
  · have q := q.1; simp (disch := omega) only [ne_eq, not_true_eq_false, Rg, tlt, tle, teq, tnI, ts1, tl0, tl1, tl2, tl3, tl4, tl5, tl6, tl7, tl8, tl9, tl10, tl11, tl12, tl13, tl14, tl15, tl16, tl24, tl30, tl33, tl60, tl84, tl96, tl99, tl100, tl200, tlm1, t44] at h q <;> omega
  · have ra : Rg 4 a := by simp (disch := omega) only [ne_eq, not_true_eq_false, Rg, tlt, tle, teq, tnI, ts1, tl0, tl1, tl2, tl3, tl4, tl5, tl6, tl7, tl8, tl9, tl10, tl11, tl12, tl13, tl14, tl15, tl16, tl24, tl30, tl33, tl60, tl84, tl96, tl99, tl100, tl200, tlm1, t44] at h1 h2 ⊢ <;> omega
    have rc : Rg 4 c := by simp (disch := omega) only [ne_eq, not_true_eq_false, Rg, tlt, tle, teq, tnI, ts1, tl0, tl1, tl2, tl3, tl4, tl5, tl6, tl7, tl8, tl9, tl10, tl11, tl12, tl13, tl14, tl15, tl16, tl24, tl30, tl33, tl60, tl84, tl96, tl99, tl100, tl200, tlm1, t44] at h3 h4 ⊢ <;> omega
    clear h1 h2 h3 h4 hbad
    obtain ⟨a, ha, rfl⟩ := ra.ex
    obtain ⟨c, hc, rfl⟩ := rc.ex
    have xa := ix_nI (show a < 2 ^ 31 by omega)
    have xc := ix_nI (show c < 2 ^ 31 by omega)
    simp only [xa, xc] at hno hkd hix hR ⊢
    have w1 := (hIS.2.2.2.1 a ha).1
    have w2 := (hIS.2.2.2.1 c hc).1
    obtain ⟨n, hn, en⟩ := (hIS.2.2.2.1 a ha).2
    obtain ⟨n2, hn2, en2⟩ := (hIS.2.2.2.1 c hc).2
    rw [en, en2, ix_nI (show n < 2 ^ 31 by omega), ix_nI (show n2 < 2 ^ 31 by omega)] at hix hR
    rw [en, en2]
    have neg : ∀ x : Int32, (x = -1 ∨ x = 0 ∨ x = 1) → x < 0 → x = -1 := fun x hx h => by
      rcases hx with q | q | q
      · exact q
      · rw [q] at h; exact absurd h (by decide)
      · rw [q] at h; exact absurd h (by decide)
    have pos : ∀ x : Int32, 0 ≤ x → ¬ x = -1 := fun x h e => by rw [e] at h; exact absurd h (by decide)
    refine ⟨vpn ha (by decide), fun h => hno ra rc (Or.inl (neg _ w1 h)), fun h5 => ⟨vpn hc (by decide), fun h6 => ⟨vpn ha (by decide), vpn hc (by decide), fun h7 => ?_, fun h => hkd ra rc (pos _ (Int32.not_lt.mp h5)) (pos _ h6) h⟩, fun h => hno ra rc (Or.inr (neg _ w2 (Int32.not_le.mp h)))⟩⟩
    have hix := hix ra rc (pos _ (Int32.not_lt.mp h5)) (pos _ h6) h7
    have hR := hR ra rc (pos _ (Int32.not_lt.mp h5)) (pos _ h6) h7
    refine ⟨fun h => hix (fun q => ?_), fun g1 => ⟨fun h => hix (fun q => ?_), fun g2 => ⟨fun h => hix (fun q => ?_), fun g3 => ⟨vpn ha (by decide), fun h => hix (fun q => ?_), fun g4 => ⟨vpn hc (by decide), fun g5 => ?_, fun h => hix (fun q => ?_)⟩⟩⟩⟩⟩
    · have q := q.1.1; simp (disch := omega) only [ne_eq, not_true_eq_false, Rg, tlt, tle, teq, tnI, ts1, tl0, tl1, tl2, tl3, tl4, tl5, tl6, tl7, tl8, tl9, tl10, tl11, tl12, tl13, tl14, tl15, tl16, tl24, tl30, tl33, tl60, tl84, tl96, tl99, tl100, tl200, tlm1, t44] at h q <;> omega
    · have q := q.2.1; simp (disch := omega) only [ne_eq, not_true_eq_false, Rg, tlt, tle, teq, tnI, ts1, tl0, tl1, tl2, tl3, tl4, tl5, tl6, tl7, tl8, tl9, tl10, tl11, tl12, tl13, tl14, tl15, tl16, tl24, tl30, tl33, tl60, tl84, tl96, tl99, tl100, tl200, tlm1, t44] at h q <;> omega
    · have q := q.2.2.1; simp (disch := omega) only [ne_eq, not_true_eq_false, Rg, tlt, tle, teq, tnI, ts1, tl0, tl1, tl2, tl3, tl4, tl5, tl6, tl7, tl8, tl9, tl10, tl11, tl12, tl13, tl14, tl15, tl16, tl24, tl30, tl33, tl60, tl84, tl96, tl99, tl100, tl200, tlm1, t44] at h q <;> omega
    · rw [cmp_gt _ _ _ q.1.1 q.1.2.1, tnI (by omega)] at h
      have := q.1.2.2
      omega
    rotate_left
    · rw [cmp_le _ _ _ q.2.1 q.2.2.1, tnI (by omega)] at h
      exact h q.2.2.2
    · simp only [tlt, tl0] at g1 g2 g3
      rw [cmp_gt _ _ _ (by omega) (by omega), tnI (by omega)] at g4
      rw [cmp_le _ _ _ (by omega) (by omega), tnI (by omega)] at g5
      have f1 : Fit n p m := ⟨by omega, by omega, by omega⟩
      have f2 : Fit n2 t m := ⟨by omega, by omega, by omega⟩
      have hR := hR f1 f2
      obtain ⟨p', m', rfl, rfl, l1⟩ := f1.ex
      obtain ⟨t', m2, rfl, em, l2⟩ := f2.ex
      have l3 : m' ≤ 24 := by omega
      have em' : m' = m2 := by
        rw [teq] at em
        have k1 : m2 < 2 ^ 31 := by omega
        rw [tnI (by omega), tnI k1] at em
        omega
      subst em'
      rw [ix_nI (show p' < 2 ^ 31 by omega), ix_nI (show t' < 2 ^ 31 by omega), ix_nI (show m' < 2 ^ 31 by omega)] at hR
      clear g1 g2 g3 g4 g5 em hix hno hkd
      have second : ∀ M1, Ag [106, 117] M M1 → M1 106 = M 106 → (∀ j, j < m' → M1 117 j = M 106 (24 * a + p' + j)) → At l G (d + 4) mX8_copy 150 [some (.ref (G.1 100)), none, none, some (.int (nI c)), some (.int (nI t')), some (.int (nI m')), some (.int (nI 0))] [] M1 R := by
        intro M1 hA1 e1 hr
        have loop : ∀ i, i ≤ m' → ∀ M', Ag [106] M1 M' → M' 106 = (fun j => if 24 * c + t' ≤ j ∧ j < 24 * c + t' + i then M 106 (24 * a + p' + (j - (24 * c + t'))) else M 106 j) → At l G (d + 4) mX8_copy 150 [some (.ref (G.1 100)), none, none, some (.int (nI c)), some (.int (nI t')), some (.int (nI m')), some (.int (nI i))] [] M' R := by
          refine upL (fun i => ∀ M', Ag [106] M1 M' → M' 106 = (fun j => if 24 * c + t' ≤ j ∧ j < 24 * c + t' + i then M 106 (24 * a + p' + (j - (24 * c + t'))) else M 106 j) → At l G (d + 4) mX8_copy 150 [some (.ref (G.1 100)), none, none, some (.int (nI c)), some (.int (nI t')), some (.int (nI m')), some (.int (nI i))] [] M' R) m' ?_ ?_
          · intro M' hA e
            exact bX8_copy_150 ⟨fun _ => hR M' (hA1.tr (hA.sub (by decide))) e, fun h => absurd (Int32.le_refl _) h⟩
          · intro i hi ih M' hA e
            refine bX8_copy_150 ⟨fun h => absurd h (by rw [le_nI (by omega) (by omega)]; omega), fun _ => ⟨vpn (by omega) (by decide), ?_, ?_⟩⟩
            · rw [i24p hc (by omega)]; exact vpn (by omega) (by decide)
            · rw [i24p hc (by omega), ix_nI (by omega), ix_nI (by omega), p1]
              refine ih _ (hA.ua (by decide) _) ?_
              rw [um_s, hA 117 (by decide), hr i hi, e]
              funext j
              by_cases q : j = 24 * c + t' + i
              · rw [q, pk_us, if_pos (by omega)]
                congr 1
                omega
              · rw [pk_un q]
                by_cases q2 : 24 * c + t' ≤ j ∧ j < 24 * c + t' + i
                · rw [if_pos q2, if_pos (by omega)]
                · rw [if_neg q2, if_neg (by omega)]
        refine loop 0 (Nat.zero_le _) M1 (Ag.rf _ _) ?_
        rw [e1]
        funext j
        rw [if_neg (by omega)]
      have first : ∀ i, i ≤ m' → ∀ M', Ag [117] M M' → (∀ j, j < i → M' 117 j = M 106 (24 * a + p' + j)) → At l G (d + 4) mX8_copy 113 [some (.ref (G.1 100)), some (.int (nI a)), some (.int (nI p')), some (.int (nI c)), some (.int (nI t')), some (.int (nI m')), some (.int (nI i))] [] M' R := by
        refine upL (fun i => ∀ M', Ag [117] M M' → (∀ j, j < i → M' 117 j = M 106 (24 * a + p' + j)) → At l G (d + 4) mX8_copy 113 [some (.ref (G.1 100)), some (.int (nI a)), some (.int (nI p')), some (.int (nI c)), some (.int (nI t')), some (.int (nI m')), some (.int (nI i))] [] M' R) m' ?_ ?_
        · intro M' hA hr
          exact bX8_copy_113 ⟨fun _ => second M' (hA.sub (by decide)) (hA 106 (by decide)) hr, fun h => absurd (Int32.le_refl _) h⟩
        · intro i hi ih M' hA hr
          refine bX8_copy_113 ⟨fun h => absurd h (by rw [le_nI (by omega) (by omega)]; omega), fun _ => ⟨?_, vpn (by omega) (by decide), ?_⟩⟩
          · rw [i24p ha (by omega)]; exact vpn (by omega) (by decide)
          · rw [i24p ha (by omega), ix_nI (by omega), ix_nI (by omega), p1]
            refine ih _ (hA.ua (by decide) _) (fun j hj => ?_)
            rw [um_s, hA 106 (by decide)]
            by_cases q : j = i
            · rw [q, pk_us]
            · rw [pk_un q]; exact hr j (by omega)
      exact first 0 (Nat.zero_le _) M (Ag.rf _ _) (fun j hj => absurd hj (Nat.not_lt_zero j))
end
