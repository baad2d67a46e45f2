-- like, the reference
section
variable {l : Launch} {G : GT} {D : Nat} {M : Mem} {R : Option Value → Mem → Prop} {b : Nat} {s : Nat → Int32}
theorem sX8_likeOnes {k n o : Nat} (hD : 32 ≤ D) (hIS : IS M) (hk : k < 4) (hn : n ≤ 24) (en : M 105 k = nI n) (ho : o < 8) (hR : ∀ M', Ag scY M M' → M' 101 = M 101 → R (some (.int (nI (akN (rwS M k) (M 101) o n)))) M') : Tr l G D mX8_likeOnes [.ref (G.1 100), .int (nI k), .int (nI o)] M R := by
  obtain ⟨d, rfl⟩ := dE (show 4 ≤ D by omega)
  have hI := hIS.1.1
  have hp := hI.1.2
  have xk := ix_nI (show k < 2 ^ 31 by omega)
  have loop : ∀ i, i ≤ n → ∀ M', Ag scY M M' → (∀ j, j < 84 → M' 113 j = M 101 j) → M' 101 = dysS i (M 101) → At l G (d + 4) mX8_likeOnes 9 [some (.ref (G.1 100)), some (.int (nI k)), some (.int (nI o)), some (.int (nI (akN (rwS M k) (M 101) o i))), some (.int (nI i)), none] [] M' R := by
    refine upL (fun i => ∀ M', Ag scY M M' → (∀ j, j < 84 → M' 113 j = M 101 j) → M' 101 = dysS i (M 101) → At l G (d + 4) mX8_likeOnes 9 [some (.ref (G.1 100)), some (.int (nI k)), some (.int (nI o)), some (.int (nI (akN (rwS M k) (M 101) o i))), some (.int (nI i)), none] [] M' R) n ?_ ?_
    · intro M' hA b1 he
      have b2 : ∀ j, 84 ≤ j → M' 101 j = M 101 j := fun j hj => by rw [he]; exact (dys_keep hI.1 hI.2.1 n).2.2.2.2.2.1 j hj
      refine bX8_likeOnes_9 ⟨vpn (by omega) (by decide), fun _ => ?_, fun h => absurd ?_ h⟩
      · exact sX8_laysBack (by omega) (fun M3 hA3 h3 => kV_i (bX8_likeOnes_74 (hR M3 (hA.tr (hA3.sub (by decide))) (back_is b1 b2 h3))))
      · rw [xk, hA 105 (by decide), en]; exact Int32.le_refl _
    · intro i hi ih M' hA b1 he
      have ii := inv_dys hI i
      have hrow : M' 106 (ix (24 * nI k + nI i)) = rwS M k i := by rw [i24b hk (by omega), ix_nI (by omega), hA 106 (by decide)]
      have go : ∀ v : Int32, v = nI (akN (rwS M k) (M 101) o (i + 1)) → Tr l G (d + 3) mX8_goesOn [.ref (G.1 100)] M' (kV fun M2 => At l G (d + 4) mX8_likeOnes 64 [some (.ref (G.1 100)), some (.int (nI k)), some (.int (nI o)), some (.int v), some (.int (nI i)), none] [] M2 R) := by
        intro v ev
        refine sX8_goesOn (by omega) (by rw [he]; exact ii.1) (by rw [he]; exact ii.2.1) (by rw [he]; exact ii.2.2.1) (fun M2 hA2 h2 => kV_i (bX8_likeOnes_64 ?_))
        rw [p1, ev]
        exact ih M2 (hA.tr (hA2.sub (by decide))) (fun j hj => by rw [hA2 113 (by decide)]; exact b1 j hj) (by rw [h2, he, dys_s])
      refine bX8_likeOnes_9 ⟨vpn (by omega) (by decide), fun h => absurd h ?_, fun _ => ⟨?_, fun h => go _ ?_, fun h => ⟨v1 ho, fun h2 => go _ ?_, fun h2 => go _ ?_⟩⟩⟩
      · rw [xk, hA 105 (by decide), en, le_nI (by omega) (by omega)]; omega
      · rw [i24b hk (by omega)]; exact vpn (by omega) (by decide)
      · rw [hrow] at h
        rw [ak_s, if_neg (fun q => q.1 h), Int32.add_zero]
      · rw [hrow] at h
        rw [hrow, e1 ho, he] at h2
        rw [ak_s, if_pos ⟨h, h2⟩, p1]
      · rw [hrow] at h
        rw [hrow, e1 ho, he] at h2
        rw [ak_s, if_neg (fun q => h2 q.2), Int32.add_zero]
  refine tX8_likeOnes (sX8_laysBy (by omega) (fun M1 hA1 h1 => kV_i (bX8_likeOnes_4 ?_)))
  exact loop 0 (Nat.zero_le _) M1 (hA1.sub (by decide)) h1 (hA1 101 (by decide))
theorem M_like {k q : Int32} (hD : 40 ≤ D) (hIS : IS M) (hR : ∀ M', Ag scY M M' → M' 101 = M 101 → R (some (.int (anLike M k q))) M') : Tr l G D mX8_like [.ref (G.1 100), .int k, .int q] M R := by
  obtain ⟨d, rfl⟩ := dE (show 4 ≤ D by omega)
  have hI := hIS.1.1
  have m0 : M 101 0 = nI (np (M 101)) := hI.1.1
  have hp := hI.1.2
  unfold anLike at hR
  by_cases hc : Rg 4 k ∧ Rg 2 q
  · simp only [if_pos hc] at hR
    obtain ⟨k, hk, rfl⟩ := hc.1.ex
    have xk := ix_nI (show k < 2 ^ 31 by omega)
    simp only [xk] at hR
    obtain ⟨n, hn, en⟩ := (hIS.2.2.2.1 k (by omega)).2
    have h104 := (hIS.2.2.2.1 k (by omega)).1
    rw [en, ix_nI (show n < 2 ^ 31 by omega)] at hR
    have hcl : ∀ o, (fun o => akN (rwS M k) (M 101) o n) o ≤ 24 := fun o => by have := ak_le (rwS M k) (M 101) o n; show akN (rwS M k) (M 101) o n ≤ 24; omega
    have main : (∀ M', Ag scY M M' → M' 101 = M 101 → R (some (.int (if np (M 101) = 0 then (-1000000005) else if q = 0 then (lkF (fun o => akN (rwS M k) (M 101) o n) (np (M 101))).1 else (lkF (fun o => akN (rwS M k) (M 101) o n) (np (M 101))).2))) M') → ∀ i, i ≤ np (M 101) → ∀ M', Ag scY M M' → M' 101 = M 101 → At l G (d + 4) mX8_like 41 [some (.ref (G.1 100)), some (.int (nI k)), some (.int q), some (.int (lkF (fun o => akN (rwS M k) (M 101) o n) i).1), some (.int (lkF (fun o => akN (rwS M k) (M 101) o n) i).2), some (.int (nI i)), none] [] M' R := by
      intro hR
      refine upL (fun i => ∀ M', Ag scY M M' → M' 101 = M 101 → At l G (d + 4) mX8_like 41 [some (.ref (G.1 100)), some (.int (nI k)), some (.int q), some (.int (lkF (fun o => akN (rwS M k) (M 101) o n) i).1), some (.int (lkF (fun o => akN (rwS M k) (M 101) o n) i).2), some (.int (nI i)), none] [] M' R) (np (M 101)) ?_ ?_
      · intro M' hA he
        have hR := hR M' hA he
        by_cases hz : np (M 101) = 0
        · rw [if_pos hz] at hR
          refine bX8_like_41 ⟨fun _ => ⟨fun h => absurd h ?_, fun _ => hR⟩, fun h => absurd ?_ h⟩
          · rw [hz]; exact (by decide : ¬ (0 : Int32) ≤ -1)
          · rw [he, m0]; exact Int32.le_refl _
        · rw [if_neg hz] at hR
          obtain ⟨j, hj, ej⟩ := lk_is hcl (np (M 101) - 1)
          rw [show np (M 101) - 1 + 1 = np (M 101) by omega] at ej
          rw [ej] at hR ⊢
          refine bX8_like_41 ⟨fun _ => ⟨fun _ => ⟨fun h => by rw [if_pos h] at hR; exact hR, fun h => by rw [if_neg h] at hR; exact hR⟩, fun h => absurd (zl j (by omega)) h⟩, fun h => absurd ?_ h⟩
          rw [he, m0]; exact Int32.le_refl _
      · intro i hi ih M' hA he
        have hIS' : Inv (M' 101) := by rw [he]; exact hI
        have ISs : IS M' := by
          obtain ⟨i1, i2, i3, i4, i5, i6⟩ := hIS
          refine ⟨by rw [he]; exact i1, ?_, i3.of (by rw [hA 100 (by decide)]) (hA 114 (by decide)), i4.of (hA 104 (by decide)) (hA 105 (by decide)), i5.of (hA 107 (by decide)) (hA 110 (by decide)), i6.of (by rw [hA 100 (by decide)])⟩
          unfold II
          rw [hA 100 (by decide), hA 102 (by decide), he]; exact i2
        refine bX8_like_41 ⟨fun h => absurd h ?_, fun _ => ?_⟩
        · rw [he, m0, le_nI (by omega) (by omega)]; omega
        · refine sX8_likeOnes (by omega) ISs hk hn (by rw [hA 105 (by decide)]; exact en) (by omega) (fun M2 hA2 he2 => kI_i ?_)
          have er : akN (rwS M' k) (M' 101) i n = akN (rwS M k) (M 101) i n := by
            rw [he]
            have : rwS M' k = rwS M k := by unfold rwS; rw [hA 106 (by decide)]
            rw [this]
          rw [er]
          have ih := ih M2 (hA.tr hA2) (he2.trans he)
          rw [lk_s] at ih
          refine bX8_like_59 ⟨fun h => ⟨fun _ => ?_, fun h2 => absurd h h2⟩, fun h => ⟨fun h2 => absurd h2 h, fun _ => ?_⟩⟩
          · rw [if_pos h] at ih
            rw [p1]
            exact ih
          · rw [if_neg h] at ih
            rw [p1]
            exact ih
    refine tX8_like ⟨fun h1 => ⟨fun h2 => ⟨fun h3 => ⟨fun h4 => ⟨vpn hk (by decide), fun h5 => ?_, fun h5 => ?_⟩, fun h => absurd hc (fun w => ?_)⟩, fun h => absurd hc (fun w => ?_)⟩, fun h => absurd hc (fun w => ?_)⟩, fun h => absurd hc (fun w => ?_)⟩
    · rw [xk] at h5
      rw [if_neg (fun e => by rw [e] at h5; exact absurd h5 (by decide))] at hR
      exact main hR 0 (Nat.zero_le _) M (Ag.rf _ _) rfl
    · rw [xk] at h5
      have e : M 104 k = -1 := by
        rcases h104 with q | q | q
        · exact q
        · rw [q] at h5; exact absurd (by decide) h5
        · rw [q] at h5; exact absurd (by decide) h5
      rw [if_pos e] at hR
      exact hR M (Ag.rf _ _) rfl
    · have w := w.2; simp (disch := omega) only [ne_eq, not_true_eq_false, Rg, tlt, tle, teq, tnI, ts1, tl0, tl1, tl2, tl3, tl4, tl5, tl6, tl7, tl8, tl9, tl10, tl11, tl12, tl13, tl14, tl15, tl16, tl24, tl30, tl33, tl60, tl84, tl96, tl99, tl100, tl200, tlm1, t44] at h w <;> omega
    · have w := w.2; simp (disch := omega) only [ne_eq, not_true_eq_false, Rg, tlt, tle, teq, tnI, ts1, tl0, tl1, tl2, tl3, tl4, tl5, tl6, tl7, tl8, tl9, tl10, tl11, tl12, tl13, tl14, tl15, tl16, tl24, tl30, tl33, tl60, tl84, tl96, tl99, tl100, tl200, tlm1, t44] at h w <;> omega
    · have w := w.1; simp (disch := omega) only [ne_eq, not_true_eq_false, Rg, tlt, tle, teq, tnI, ts1, tl0, tl1, tl2, tl3, tl4, tl5, tl6, tl7, tl8, tl9, tl10, tl11, tl12, tl13, tl14, tl15, tl16, tl24, tl30, tl33, tl60, tl84, tl96, tl99, tl100, tl200, tlm1, t44] at h w <;> omega
    · have w := w.1; simp (disch := omega) only [ne_eq, not_true_eq_false, Rg, tlt, tle, teq, tnI, ts1, tl0, tl1, tl2, tl3, tl4, tl5, tl6, tl7, tl8, tl9, tl10, tl11, tl12, tl13, tl14, tl15, tl16, tl24, tl30, tl33, tl60, tl84, tl96, tl99, tl100, tl200, tlm1, t44] at h w <;> omega
  · simp only [if_neg hc] at hR
    have hB := hR M (Ag.rf _ _) rfl
    refine tX8_like ⟨fun h1 => ⟨fun h2 => ⟨fun h3 => ⟨fun h4 => absurd (show Rg 4 k ∧ Rg 2 q from ⟨?_, ?_⟩) hc, fun h => hB⟩, fun h => hB⟩, fun h => hB⟩, fun h => hB⟩
    · simp (disch := omega) only [ne_eq, not_true_eq_false, Rg, tlt, tle, teq, tnI, ts1, tl0, tl1, tl2, tl3, tl4, tl5, tl6, tl7, tl8, tl9, tl10, tl11, tl12, tl13, tl14, tl15, tl16, tl24, tl30, tl33, tl60, tl84, tl96, tl99, tl100, tl200, tlm1, t44] at h1 h2 ⊢ <;> omega
    · simp (disch := omega) only [ne_eq, not_true_eq_false, Rg, tlt, tle, teq, tnI, ts1, tl0, tl1, tl2, tl3, tl4, tl5, tl6, tl7, tl8, tl9, tl10, tl11, tl12, tl13, tl14, tl15, tl16, tl24, tl30, tl33, tl60, tl84, tl96, tl99, tl100, tl200, tlm1, t44] at h3 h4 ⊢ <;> omega
end
