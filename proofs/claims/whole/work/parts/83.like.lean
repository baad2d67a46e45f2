-- like
def akN (r : Nat → Int32) (s : Nat → Int32) (o : Nat) : Nat → Nat
  | 0 => 0
  | i + 1 => if ¬ r i = (-1000000005) ∧ r i = dysS i s (11 + 4 * o) then akN r s o i + 1 else akN r s o i
theorem ak_s (r : Nat → Int32) (s : Nat → Int32) (o i : Nat) : akN r s o (i + 1) = if ¬ r i = (-1000000005) ∧ r i = dysS i s (11 + 4 * o) then akN r s o i + 1 else akN r s o i := rfl
theorem ak_le (r : Nat → Int32) (s : Nat → Int32) (o : Nat) : ∀ i, akN r s o i ≤ i
  | 0 => Nat.le_refl _
  | i + 1 => by
    have := ak_le r s o i
    rw [ak_s]
    split <;> omega
def lkF (c : Nat → Nat) : Nat → Int32 × Int32
  | 0 => (-1, -1)
  | i + 1 => if nI (c i) ≤ (lkF c i).2 then lkF c i else (nI i, nI (c i))
theorem lk_s (c : Nat → Nat) (i : Nat) : lkF c (i + 1) = if nI (c i) ≤ (lkF c i).2 then lkF c i else (nI i, nI (c i)) := rfl
theorem lk_is {c : Nat → Nat} (hc : ∀ i, c i ≤ 24) : ∀ i, ∃ j, j ≤ i ∧ lkF c (i + 1) = (nI j, nI (c j))
  | 0 => by
    refine ⟨0, Nat.le_refl _, ?_⟩
    rw [lk_s]
    show (if nI (c 0) ≤ -1 then _ else _ : Int32 × Int32) = _
    rw [if_neg (nle_m1 (by have := hc 0; omega))]
  | i + 1 => by
    obtain ⟨j, hj, e⟩ := lk_is hc i
    rw [lk_s]
    split
    · exact ⟨j, by omega, e⟩
    · exact ⟨i + 1, Nat.le_refl _, rfl⟩
section
variable {l : Launch} {G : GT} {D : Nat} {M : Mem} {R : Option Value → Mem → Prop} {b : Nat} {s : Nat → Int32}
theorem sX7_countAlike {k n : Nat} (hD : 32 ≤ D) (hRel : Rel M) (hk : k < 4) (hn : n ≤ 24) (en : M 105 k = nI n) (hR : ∀ M', Ag scX M M' → (∀ o, o < np (M 101) → M' 62 o = nI (akN (rwS M k) (M 101) o n)) → R none M') : Tr l G D mX7_countAlike [.ref (G.1 0), .ref (G.1 (70 + 2 * k))] M R := by
  obtain ⟨d, rfl⟩ := dE (show 4 ≤ D by omega)
  have hL := hRel.1.1.1
  have hI := hRel.2.1.1
  have hp := hI.1.2
  have n1 : M 30 1 = nI (np (M 101)) := hL.1.1.trans hI.1.1
  have hs := hRel.1.2.2.2.1 k hk
  have s1 : M (70 + 2 * k) 1 = nI n := hs.2.1.trans en
  have hSh : IsSh (70 + 2 * k) := by unfold IsSh; omega
  have nsc : ∀ M', Ag scX M M' → M' 30 1 = nI (np (M 101)) ∧ M' (70 + 2 * k) 1 = nI n ∧ ∀ i, i < 24 → M' (70 + 2 * k + 1) i = rwS M k i := fun M' hA => ⟨by rw [hA 30 (by decide)]; exact n1, by rw [hA _ (by simp [scX]; omega)]; exact s1, fun i hi => by rw [hA _ (by simp [scX]; omega)]; exact hs.2.2 i hi⟩
  -- one row's place held against all
  have inner : ∀ i, i < n → (∀ M', Ag scX M M' → XS M' 40 (dysS i (M 101)) → (∀ o, o < np (M 101) → M' 62 o = nI (akN (rwS M k) (M 101) o (i + 1))) → At l G (d + 4) mX7_countAlike 34 [some (.ref (G.1 0)), some (.ref (G.1 (70 + 2 * k))), some (.int (nI i + 1)), none] [] M' R) → ∀ j, j ≤ np (M 101) → ∀ M', Ag scX M M' → XS M' 40 (dysS i (M 101)) → (∀ o, o < np (M 101) → M' 62 o = nI (akN (rwS M k) (M 101) o (if o < j then i + 1 else i))) → At l G (d + 4) mX7_countAlike 56 [some (.ref (G.1 0)), some (.ref (G.1 (70 + 2 * k))), some (.int (nI i)), some (.int (nI j))] [] M' R := by
    intro i hi hnext
    refine upL (fun j => ∀ M', Ag scX M M' → XS M' 40 (dysS i (M 101)) → (∀ o, o < np (M 101) → M' 62 o = nI (akN (rwS M k) (M 101) o (if o < j then i + 1 else i))) → At l G (d + 4) mX7_countAlike 56 [some (.ref (G.1 0)), some (.ref (G.1 (70 + 2 * k))), some (.int (nI i)), some (.int (nI j))] [] M' R) (np (M 101)) ?_ ?_
    · intro M' hA hX hz
      obtain ⟨c1, c2, c3⟩ := nsc M' hA
      refine bX7_countAlike_56 hSh ⟨fun _ => hnext M' hA hX (fun o ho => by rw [hz o ho, if_pos ho]), fun h => absurd ?_ h⟩
      rw [c1]; exact Int32.le_refl _
    · intro j hj ih M' hA hX hz
      obtain ⟨c1, c2, c3⟩ := nsc M' hA
      have l2 : M' 42 j = dysS i (M 101) (11 + 4 * j) := hX.1.2.2.1 j (by omega)
      have zj : M' 62 j = nI (akN (rwS M k) (M 101) j i) := by rw [hz j hj, if_neg (by omega)]
      have skip : ¬ (¬ rwS M k i = (-1000000005) ∧ rwS M k i = dysS i (M 101) (11 + 4 * j)) → At l G (d + 4) mX7_countAlike 56 [some (.ref (G.1 0)), some (.ref (G.1 (70 + 2 * k))), some (.int (nI i)), some (.int (nI (j + 1)))] [] M' R := fun q => ih M' hA hX (fun o ho => by
        by_cases e : o = j
        · rw [e, zj, if_pos (by omega), ak_s, if_neg q]
        · rw [hz o ho]
          by_cases e2 : o < j
          · rw [if_pos e2, if_pos (by omega)]
          · rw [if_neg e2, if_neg (by omega)])
      refine bX7_countAlike_56 hSh ⟨fun h => absurd h ?_, fun _ => ⟨fun h => absurd h (Int32.not_lt.mpr (zl i (by omega))), fun _ => ⟨fun h => absurd h ?_, fun _ => ⟨vpn (by omega) (by decide), fun h => ?_, fun h => ⟨vpn (by omega) (by decide), vpn (by omega) (by decide), fun h2 => ⟨vpn (by omega) (by decide), vpn (by omega) (by decide), ?_⟩, fun h2 => ?_⟩⟩⟩⟩⟩
      · rw [c1, le_nI (by omega) (by omega)]; omega
      · rw [c2, le_nI (by omega) (by omega)]; omega
      · rw [ix_nI (by omega), c3 i (by omega)] at h
        rw [p1]
        exact skip (fun q => q.1 h)
      all_goals rw [ix_nI (by omega), c3 i (by omega)] at h
      all_goals rw [ix_nI (show i < 2 ^ 31 by omega), c3 i (by omega), ix_nI (show j < 2 ^ 31 by omega), l2] at h2
      · rw [p1, ix_nI (by omega), zj, p1]
        have hX2 : XS (um M' 62 j (nI (akN (rwS M k) (M 101) j i + 1))) 40 (dysS i (M 101)) := ⟨hX.1.of (fun a ha => um_n _ _ _ (by omega)), hX.2.1, fun t ht => by
          have hw := hX.2.2 t ht
          have h14 := hX.2.1.2.2.1.2.1
          unfold LW at hw ⊢
          rw [um_n _ _ _ (by decide), um_n _ _ _ (by decide), um_n _ _ _ (by decide), um_n _ _ _ (by omega)]
          exact hw⟩
        refine ih _ (hA.ua (by decide) _) hX2 (fun o ho => ?_)
        rw [um_s]
        by_cases e : o = j
        · rw [e, pk_us, if_pos (by omega), ak_s, if_pos ⟨h, h2⟩]
        · rw [pk_un e, hz o ho]
          by_cases e2 : o < j
          · rw [if_pos e2, if_pos (by omega)]
          · rw [if_neg e2, if_neg (by omega)]
      · rw [p1]
        exact skip (fun q => h2 q.2)
  have outer : ∀ i, i ≤ n → ∀ M', Ag scX M M' → XS M' 40 (dysS (i - 1) (M 101)) → (∀ o, o < np (M 101) → M' 62 o = nI (akN (rwS M k) (M 101) o i)) → At l G (d + 4) mX7_countAlike 34 [some (.ref (G.1 0)), some (.ref (G.1 (70 + 2 * k))), some (.int (nI i)), none] [] M' R := by
    refine upL (fun i => ∀ M', Ag scX M M' → XS M' 40 (dysS (i - 1) (M 101)) → (∀ o, o < np (M 101) → M' 62 o = nI (akN (rwS M k) (M 101) o i)) → At l G (d + 4) mX7_countAlike 34 [some (.ref (G.1 0)), some (.ref (G.1 (70 + 2 * k))), some (.int (nI i)), none] [] M' R) n ?_ ?_
    · intro M' hA hX hz
      obtain ⟨c1, c2, c3⟩ := nsc M' hA
      refine bX7_countAlike_34 hSh ⟨fun _ => hR M' hA hz, fun h => absurd ?_ h⟩
      rw [c2]; exact Int32.le_refl _
    · intro i hi ih M' hA hX hz
      obtain ⟨c1, c2, c3⟩ := nsc M' hA
      have go : ∀ M', Ag scX M M' → XS M' 40 (dysS i (M 101)) → (∀ o, o < np (M 101) → M' 62 o = nI (akN (rwS M k) (M 101) o i)) → At l G (d + 4) mX7_countAlike 56 [some (.ref (G.1 0)), some (.ref (G.1 (70 + 2 * k))), some (.int (nI i)), some (.int 0)] [] M' R := fun M' hA hX hz => inner i hi (fun M2 hA2 hX2 hz2 => by rw [p1]; exact ih M2 hA2 hX2 hz2) 0 (Nat.zero_le _) M' hA hX (fun o ho => by rw [if_neg (Nat.not_lt_zero o)]; exact hz o ho)
      refine bX7_countAlike_34 hSh ⟨fun h => absurd h ?_, fun _ => ⟨fun h => ?_, fun h => ?_⟩⟩
      · rw [c2, le_nI (by omega) (by omega)]; omega
      · rw [show (0 : Int32) = nI 0 from rfl, le_nI (by omega) (by omega)] at h
        have e0 : i = 0 := by omega
        subst e0
        exact go M' hA hX hz
      · rw [show (0 : Int32) = nI 0 from rfl, le_nI (by omega) (by omega)] at h
        refine sX1_passDays (n := 1) ld40 (by omega) (by decide) hX (fun M2 hA2 hX2 => kV_i (bX7_countAlike_54 hSh ?_))
        refine go M2 (hA.tr (hA2.sub scx40)) ?_ (fun o ho => by rw [hA2 62 (by decide)]; exact hz o ho)
        rw [dys_1, ← dys_s, show i - 1 + 1 = i by omega] at hX2
        exact hX2
  have zero : ∀ i, i ≤ 8 → ∀ M', Ag [62] M M' → (∀ o, o < i → M' 62 o = 0) → At l G (d + 4) mX7_countAlike 2 [some (.ref (G.1 0)), some (.ref (G.1 (70 + 2 * k))), some (.int (nI i)), none] [] M' R := by
    refine upL (fun i => ∀ M', Ag [62] M M' → (∀ o, o < i → M' 62 o = 0) → At l G (d + 4) mX7_countAlike 2 [some (.ref (G.1 0)), some (.ref (G.1 (70 + 2 * k))), some (.int (nI i)), none] [] M' R) 8 ?_ ?_
    · intro M' hA hz
      refine bX7_countAlike_2 hSh ⟨fun _ => ?_, fun h => absurd (by decide : (8 : Int32) ≤ nI 8) h⟩
      have hL' : LR M' 30 (M 101) := hL.of (fun j hj => hA _ (by simp; omega))
      refine sX1_take ld40 ld30 (by decide) (by omega) hL' (fun M1 hA1 hL1 => kV_i (bX7_countAlike_32 hSh ?_))
      refine outer 0 (Nat.zero_le _) M1 ((hA.sub (by decide)).tr (hA1.sub scx40)) ⟨hL1, hI, fun t (ht : t < nt (M 101)) => ?_⟩ (fun o ho => by rw [hA1 62 (by decide), hz o (by omega)]; rfl)
      refine LW_ag ld40 (by have := hI.2.2.1.2.1; omega) hA1 ?_
      have hw := hRel.1.1.2 t ht
      have h14 := hI.2.2.1.2.1
      unfold LW at hw ⊢
      rw [hA 3 (by decide), hA 4 (by decide), hA 5 (by decide), hA (7 + t) (by simp; omega)]
      exact hw
    · intro i hi ih M' hA hz
      refine bX7_countAlike_2 hSh ⟨fun h => absurd h (by rw [show (8 : Int32) = nI 8 from rfl, le_nI (by omega) (by omega)]; omega), fun _ => ⟨vpn hi (by decide), ?_⟩⟩
      rw [p1, ix_nI (by omega)]
      refine ih _ (hA.ua (by decide) _) (fun o ho => ?_)
      rw [um_s]
      by_cases e : o = i
      · rw [e, pk_us]
      · rw [pk_un e]; exact hz o (by omega)
  exact tX7_countAlike hSh (zero 0 (Nat.zero_le _) M (Ag.rf _ _) (fun o ho => absurd ho (Nat.not_lt_zero o)))
def anLike (M : Mem) (k q : Int32) : Int32 := if Rg 4 k ∧ Rg 2 q then (if M 104 (ix k) = -1 then (-1000000011) else if np (M 101) = 0 then (-1000000005) else if q = 0 then (lkF (fun o => akN (rwS M (ix k)) (M 101) o (ix (M 105 (ix k)))) (np (M 101))).1 else (lkF (fun o => akN (rwS M (ix k)) (M 101) o (ix (M 105 (ix k)))) (np (M 101))).2) else (-1000000001)
theorem X_like {k q : Int32} (hD : 40 ≤ D) (hRel : Rel M) (hR : ∀ M', Ag scX M M' → R (some (.int (anLike M k q))) M') : Tr l G D mX7_like [.ref (G.1 0), .int k, .int q] M R := by
  obtain ⟨d, rfl⟩ := dE (show 4 ≤ D by omega)
  have hL := hRel.1.1.1
  have hI := hRel.2.1.1
  have n1 : M 30 1 = nI (np (M 101)) := hL.1.1.trans hI.1.1
  have hp := hI.1.2
  unfold anLike at hR
  by_cases hc : Rg 4 k ∧ Rg 2 q
  · simp only [if_pos hc] at hR
    obtain ⟨k, hk, rfl⟩ := hc.1.ex
    have xk := ix_nI (show k < 2 ^ 31 by omega)
    simp only [xk] at hR
    have hs := hRel.1.2.2.2.1 k (by omega)
    have s0 : M (70 + 2 * k) 0 = M 104 k := hs.1
    obtain ⟨n, hn, en⟩ := (hRel.2.2.2.2.1 k (by omega)).2
    rw [en, ix_nI (show n < 2 ^ 31 by omega)] at hR
    have hcl : ∀ o, (fun o => akN (rwS M k) (M 101) o n) o ≤ 24 := fun o => by have := ak_le (rwS M k) (M 101) o n; show akN (rwS M k) (M 101) o n ≤ 24; omega
    refine tX7_like ⟨fun h => absurd hc (fun w => ?_), fun h1 => ⟨fun h => absurd hc (fun w => ?_), fun h2 => ⟨fun h => absurd hc (fun w => ?_), fun h3 => ⟨fun h4 => ⟨vpn hk (by decide), fun h5 => ?_, fun h5 => ⟨fun h6 => ?_, fun h6 => ⟨vpn hk (by decide), ?_⟩⟩⟩, fun h => absurd hc (fun w => ?_)⟩⟩⟩⟩
    · have w := w.1; simp (disch := omega) only [ne_eq, not_true_eq_false, Rg, tlt, tle, teq, tnI, ts1, tl0, tl1, tl2, tl3, tl4, tl5, tl6, tl7, tl8, tl9, tl10, tl11, tl12, tl13, tl14, tl15, tl16, tl24, tl30, tl33, tl60, tl84, tl96, tl99, tl100, tl200, tlm1, t44] at h w <;> omega
    · have w := w.1; simp (disch := omega) only [ne_eq, not_true_eq_false, Rg, tlt, tle, teq, tnI, ts1, tl0, tl1, tl2, tl3, tl4, tl5, tl6, tl7, tl8, tl9, tl10, tl11, tl12, tl13, tl14, tl15, tl16, tl24, tl30, tl33, tl60, tl84, tl96, tl99, tl100, tl200, tlm1, t44] at h w <;> omega
    · have w := w.2; simp (disch := omega) only [ne_eq, not_true_eq_false, Rg, tlt, tle, teq, tnI, ts1, tl0, tl1, tl2, tl3, tl4, tl5, tl6, tl7, tl8, tl9, tl10, tl11, tl12, tl13, tl14, tl15, tl16, tl24, tl30, tl33, tl60, tl84, tl96, tl99, tl100, tl200, tlm1, t44] at h w <;> omega
    · rw [xk, s0] at h5
      rw [if_pos h5] at hR
      exact hR M (Ag.rf _ _)
    · rw [xk, s0] at h5
      rw [n1, show (0 : Int32) = nI 0 from rfl, nI_eq (by omega) (by omega)] at h6
      rw [if_neg h5, if_pos h6] at hR
      exact hR M (Ag.rf _ _)
    · rw [xk, s0] at h5
      rw [n1, show (0 : Int32) = nI 0 from rfl, nI_eq (by omega) (by omega)] at h6
      rw [if_neg h5, if_neg h6] at hR
      rw [xk]
      refine sX7_countAlike (by omega) hRel hk hn en (fun M1 hA1 hz => kV_i (bX7_like_57 ?_))
      have c30 : M1 30 1 = nI (np (M 101)) := by rw [hA1 30 (by decide)]; exact n1
      have main : ∀ i, i ≤ np (M 101) - 1 → At l G (d + 4) mX7_like 62 [some (.ref (G.1 0)), none, some (.int q), some (.int (lkF (fun o => akN (rwS M k) (M 101) o n) (i + 1)).1), some (.int (nI (i + 1)))] [] M1 R := by
        refine upL (fun i => At l G (d + 4) mX7_like 62 [some (.ref (G.1 0)), none, some (.int q), some (.int (lkF (fun o => akN (rwS M k) (M 101) o n) (i + 1)).1), some (.int (nI (i + 1)))] [] M1 R) (np (M 101) - 1) ?_ ?_
        · obtain ⟨j, hj, ej⟩ := lk_is hcl (np (M 101) - 1)
          have hR := hR M1 hA1
          rw [show np (M 101) - 1 + 1 = np (M 101) by omega] at ej ⊢
          rw [ej] at hR ⊢
          refine bX7_like_62 ⟨fun _ => ⟨fun h => by rw [if_pos h] at hR; exact hR, fun h => ⟨vpn (by omega) (by decide), ?_⟩⟩, fun h => absurd ?_ h⟩
          · rw [if_neg h] at hR
            show R (some (.int (M1 62 (ix (nI j))))) M1
            rw [ix_nI (by omega), hz j (by omega)]
            exact hR
          · rw [c30]; exact Int32.le_refl _
        · intro i hi ih
          obtain ⟨j, hj, ej⟩ := lk_is hcl i
          rw [lk_s] at ih
          rw [ej] at ih ⊢
          refine bX7_like_62 ⟨fun h => absurd h ?_, fun _ => ⟨vpn (by omega) (by decide), vpn (by omega) (by decide), fun h => ?_, fun h => ?_⟩⟩
          · rw [c30, le_nI (by omega) (by omega)]; omega
          · replace h : M1 62 (ix (nI (i + 1))) ≤ M1 62 (ix (nI j)) := h
            rw [ix_nI (by omega), ix_nI (by omega), hz _ (by omega), hz _ (by omega)] at h
            rw [if_pos h] at ih
            rw [p1]
            exact ih
          · replace h : ¬ M1 62 (ix (nI (i + 1))) ≤ M1 62 (ix (nI j)) := h
            rw [ix_nI (by omega), ix_nI (by omega), hz _ (by omega), hz _ (by omega)] at h
            rw [if_neg h] at ih
            rw [p1]
            exact ih
      have := main 0 (Nat.zero_le _)
      rw [lk_s] at this
      have e : (if nI ((fun o => akN (rwS M k) (M 101) o n) 0) ≤ (lkF (fun o => akN (rwS M k) (M 101) o n) 0).2 then lkF (fun o => akN (rwS M k) (M 101) o n) 0 else (nI 0, nI ((fun o => akN (rwS M k) (M 101) o n) 0))) = (nI 0, nI ((fun o => akN (rwS M k) (M 101) o n) 0)) := if_neg (nle_m1 (by have := hcl 0; omega))
      rw [e] at this
      exact this
    · have w := w.2; simp (disch := omega) only [ne_eq, not_true_eq_false, Rg, tlt, tle, teq, tnI, ts1, tl0, tl1, tl2, tl3, tl4, tl5, tl6, tl7, tl8, tl9, tl10, tl11, tl12, tl13, tl14, tl15, tl16, tl24, tl30, tl33, tl60, tl84, tl96, tl99, tl100, tl200, tlm1, t44] at h w <;> omega
  · simp only [if_neg hc] at hR
    have hB := hR M (Ag.rf _ _)
    refine tX7_like ⟨fun h => hB, fun h1 => ⟨fun h => hB, fun h2 => ⟨fun h => hB, fun h3 => ⟨fun h4 => absurd (show Rg 4 k ∧ Rg 2 q from ⟨?_, ?_⟩) hc, fun h => hB⟩⟩⟩⟩
    · simp (disch := omega) only [ne_eq, not_true_eq_false, Rg, tlt, tle, teq, tnI, ts1, tl0, tl1, tl2, tl3, tl4, tl5, tl6, tl7, tl8, tl9, tl10, tl11, tl12, tl13, tl14, tl15, tl16, tl24, tl30, tl33, tl60, tl84, tl96, tl99, tl100, tl200, tlm1, t44] at h1 h2 ⊢ <;> omega
    · simp (disch := omega) only [ne_eq, not_true_eq_false, Rg, tlt, tle, teq, tnI, ts1, tl0, tl1, tl2, tl3, tl4, tl5, tl6, tl7, tl8, tl9, tl10, tl11, tl12, tl13, tl14, tl15, tl16, tl24, tl30, tl33, tl60, tl84, tl96, tl99, tl100, tl200, tlm1, t44] at h3 h4 ⊢ <;> omega
end
