-- the reference's search as a whole; journey, reach
section
variable {l : Launch} {G : GT} {D : Nat} {M : Mem} {R : Option Value → Mem → Prop} {x : Int32} {f : Nat}
theorem sX8_findsWays (hD : 20 ≤ D) (hI : Inv (M 101)) (hf : f < 10) (hR : ∀ M', Ag [112] M M' → DF M' (M 101) x f 10 → R none M') : Tr l G D mX8_findsWays [.ref (G.1 100), .int x, .int (nI f)] M R := by
  obtain ⟨d, rfl⟩ := dE (show 4 ≤ D by omega)
  have h14 := hI.2.1.2
  refine tX8_findsWays ?_
  have phases : ∀ t, t ≤ 10 → ∀ M', Ag [112] M M' → DF M' (M 101) x f t → At l G (d + 4) mX8_findsWays 32 [some (.ref (G.1 100)), some (.int x), none, some (.int (nI t)), none] [] M' R := by
    refine upL (fun t => ∀ M', Ag [112] M M' → DF M' (M 101) x f t → At l G (d + 4) mX8_findsWays 32 [some (.ref (G.1 100)), some (.int x), none, some (.int (nI t)), none] [] M' R) 10 ?_ ?_
    · intro M' hA hF
      exact bX8_findsWays_32 ⟨fun _ => hR M' hA hF, fun h => absurd (by decide : (10 : Int32) ≤ nI 10) h⟩
    · intro t ht ih M' hA hF
      refine bX8_findsWays_32 ⟨fun h => absurd h (by rw [show (10 : Int32) = nI 10 from rfl, le_nI (by omega) (by omega)]; omega), fun _ => ?_⟩
      have ways : ∀ w, w ≤ nw (M 101) → ∀ M1, Ag [112] M M1 → DP M1 (M 101) x f t (2 * w) → At l G (d + 4) mX8_findsWays 41 [some (.ref (G.1 100)), some (.int x), none, some (.int (nI t)), some (.int (nI w))] [] M1 R := by
        refine upL (fun w => ∀ M1, Ag [112] M M1 → DP M1 (M 101) x f t (2 * w) → At l G (d + 4) mX8_findsWays 41 [some (.ref (G.1 100)), some (.int x), none, some (.int (nI t)), some (.int (nI w))] [] M1 R) (nw (M 101)) ?_ ?_
        · intro M1 hA1 hP1
          refine bX8_findsWays_41 ⟨fun _ => ?_, fun h => absurd (by rw [hA1 101 (by decide), hI.2.1.1, le_nI (by omega) (by omega)]; exact Nat.le_refl _) h⟩
          rw [p1]
          exact ih M1 hA1 (dp_df hI hP1)
        · intro w hw ihw M1 hA1 hP1
          obtain ⟨⟨a, ha, ea⟩, ⟨c, hc, ec⟩, -⟩ := hI.2.2.2.2 w hw
          have e1 : M1 101 = M 101 := hA1 101 (by decide)
          refine bX8_findsWays_41 ⟨fun h => absurd h (by rw [e1, hI.2.1.1, le_nI (by omega) (by omega)]; omega), fun _ => ⟨vw0 (by omega), ?_⟩⟩
          rw [f0 (by omega), e1, show M 101 (42 + 3 * w) = nI a from ea]
          refine sX8_goesBy (f := f) (n := 2 * w) (q := a) (by omega) ht (by rw [e1]; exact hI) (by rw [e1]; exact hw) (by omega) ha (by rw [e1, if_pos (by omega)]; exact ea) (by rw [e1]; exact hP1) (fun M2 hA2 hP2 => kV_i (bX8_findsWays_66 ⟨vw1 (by omega), ?_⟩))
          rw [e1] at hP2
          have hA2' := hA1.tr hA2
          have e2 : M2 101 = M 101 := hA2' 101 (by decide)
          rw [f1 (by omega), e2, show M 101 (43 + 3 * w) = nI c from ec]
          refine sX8_goesBy (f := f) (n := 2 * w + 1) (q := c) (by omega) ht (by rw [e2]; exact hI) (by rw [e2]; exact hw) (by omega) hc (by rw [e2, if_neg (by omega)]; exact ec) (by rw [e2]; exact hP2) (fun M3 hA3 hP3 => kV_i (bX8_findsWays_80 ?_))
          rw [e2] at hP3
          rw [p1]
          exact ihw M3 (hA2'.tr hA3) (by rw [show 2 * (w + 1) = 2 * w + 1 + 1 by omega]; exact hP3)
      exact ways 0 (Nat.zero_le _) M' hA (df_dp hF)
  have init : ∀ i, i ≤ 10 → ∀ M', Ag [112] M M' → (∀ p, p < i → M' 112 p = if p = f then 0 else -1) → At l G (d + 4) mX8_findsWays 2 [some (.ref (G.1 100)), some (.int x), some (.int (nI f)), some (.int (nI i)), none] [] M' R := by
    refine upL (fun i => ∀ M', Ag [112] M M' → (∀ p, p < i → M' 112 p = if p = f then 0 else -1) → At l G (d + 4) mX8_findsWays 2 [some (.ref (G.1 100)), some (.int x), some (.int (nI f)), some (.int (nI i)), none] [] M' R) 10 ?_ ?_
    · intro M' hA hp
      refine bX8_findsWays_2 ⟨fun _ => ?_, fun h => absurd (by decide : (10 : Int32) ≤ nI 10) h⟩
      refine phases 0 (by omega) M' hA (fun p hp' => ?_)
      by_cases e : p = f
      · exact Or.inl ⟨0, Nat.le_refl _, by rw [hp p hp', if_pos e]; rfl, e, fun i hi => absurd hi (Nat.not_lt_zero i)⟩
      · exact Or.inr ⟨by rw [hp p hp', if_neg e], e⟩
    · intro i hi ih M' hA hp
      have st : ∀ v : Int32, v = (if i = f then 0 else -1) → At l G (d + 4) mX8_findsWays 2 [some (.ref (G.1 100)), some (.int x), some (.int (nI f)), some (.int (nI (i + 1))), none] [] (um M' 112 i v) R := by
        intro v hv
        refine ih _ (hA.ua (by decide) _) (fun p hp' => ?_)
        rw [um_s]
        by_cases e : p = i
        · rw [e, pk_us]; exact hv
        · rw [pk_un e]; exact hp p (by omega)
      have en := nI_eq (a := i) (b := f) (by omega) (by omega)
      refine bX8_findsWays_2 ⟨fun h => absurd h (by rw [show (10 : Int32) = nI 10 from rfl, le_nI (by omega) (by omega)]; omega), fun _ => ⟨fun h => ⟨vpn hi (by decide), ?_⟩, fun h => ⟨vpn hi (by decide), ?_⟩⟩⟩
      · rw [ix_nI (by omega), p1]
        exact st 0 (by rw [if_pos (en.mp h)])
      · rw [ix_nI (by omega), p1]
        exact st (-1) (by rw [if_neg (fun q => h (en.mpr q))])
  exact init 0 (by omega) M (Ag.rf _ _) (fun p hp => absurd hp (Nat.not_lt_zero p))
/-- what the reference's search answers -/
def Jm (s : Nat → Int32) (x : Int32) (f p : Nat) (a : Int32) : Prop := (a = -1 ∧ ∀ t, ¬ Rc s x f t p) ∨ ∃ t, t ≤ 9 ∧ a = nI t ∧ Fs s x f t p
theorem df_jm {M : Mem} {s : Nat → Int32} {p : Nat} (hp : p < 10) (h : DF M s x f 10) : Jm s x f p (M 112 p) := by
  rcases h p hp with ⟨i, hi, g1, g2⟩ | ⟨g1, g2⟩
  · exact Or.inr ⟨i, fs_9 hp g2, g1, g2⟩
  · exact Or.inl ⟨g1, fun t ht => g2 (rc_mono (by decide) (rc_9 hp ht))⟩
theorem sX8_journeyOf {p : Nat} (hD : 24 ≤ D) (hI : Inv (M 101)) (hf : f < 10) (hp : p < 10) (hR : ∀ M' a, Ag [112] M M' → Jm (M 101) x f p a → R (some (.int a)) M') : Tr l G D mX8_journeyOf [.ref (G.1 100), .int x, .int (nI f), .int (nI p)] M R := by
  obtain ⟨d, rfl⟩ := dE (show 4 ≤ D by omega)
  refine tX8_journeyOf (sX8_findsWays (f := f) (by omega) hI hf (fun M' hA hF => kV_i (bX8_journeyOf_6 ⟨vpn hp (by decide), ?_⟩)))
  rw [ix_nI (by omega)]
  exact hR M' _ hA (df_jm hp hF)
theorem ppl_ok {n : Nat} (hn : n ≤ 8) (x : Int32) : (x &&& (((1 : Int32) <<< (nI n &&& 31)) - 1 ^^^ (-1)) = 0) ↔ Rg (2 ^ n) x := by
  have h2 := p2_le hn
  constructor
  · intro h
    obtain ⟨m, hm, e⟩ := small_bits (x := x) (n := n) (by omega) (fun j hj => by
      by_cases q : j < n
      · exact q
      · by_cases q2 : j < 32
        · have hb : bt (x &&& (((1 : Int32) <<< (nI n &&& 31)) - 1 ^^^ (-1))) j = true := by
            rw [b_and, b_xor, bt_mk (by omega), bt_neg q2, hj]
            simp [q]
          rw [h] at hb
          exact absurd hb (bt_z j)
        · rw [b_big (by omega)] at hj
          exact absurd hj Bool.false_ne_true)
    rw [e]
    exact Rg.of hm (by omega)
  · intro h
    obtain ⟨m, hm, e⟩ := h.ex
    rw [e]
    apply b_ext
    intro j hj
    rw [b_and, b_xor, bt_mk (by omega), bt_neg hj, bt_nI hj]
    have hz : bt 0 j = false := by
      have := bt_z j
      rwa [Bool.not_eq_true] at this
    rw [hz]
    by_cases q : j < n
    · simp [q]
    · rw [Nat.testBit_lt_two_pow (Nat.lt_of_lt_of_le hm (Nat.pow_le_pow_right (by decide) (by omega)))]
      rfl
end
section
variable {l : Launch} {G : GT} {D : Nat} {M : Mem} {R : Option Value → Mem → Prop} {b : Nat} {s : Nat → Int32}
theorem X_journey {x f p : Int32} (hD : 32 ≤ D) (hRel : Rel M) (hbad : ¬ (Rg (2 ^ np (M 101)) x ∧ Rg 10 f ∧ Rg 10 p) → R (some (.int (-1000000001))) M) (hR : Rg (2 ^ np (M 101)) x ∧ Rg 10 f ∧ Rg 10 p → ∀ M' a, Ag scX M M' → Jn (M 101) x (ix f) (ix p) a → R (some (.int a)) M') : Tr l G D mX7_journey [.ref (G.1 0), .int x, .int f, .int p] M R := by
  obtain ⟨d, rfl⟩ := dE (show 4 ≤ D by omega)
  have hL := hRel.1.1.1
  have hI := hRel.2.1.1
  have hp := hI.1.2
  have n1 : M 30 1 = nI (np (M 101)) := hL.1.1.trans hI.1.1
  have hq := ppl_ok hp x
  have h2 := p2_le hp
  by_cases hc : Rg (2 ^ np (M 101)) x ∧ Rg 10 f ∧ Rg 10 p
  · have hR2 := hR hc
    obtain ⟨f, hf, rfl⟩ := hc.2.1.ex
    obtain ⟨p, hp', rfl⟩ := hc.2.2.ex
    rw [ix_nI (show f < 2 ^ 31 by omega), ix_nI (show p < 2 ^ 31 by omega)] at hR2
    refine tX7_journey ⟨fun h1 => ⟨fun h2 => (absurd hc (fun hc => by simp (disch := omega) only [n1, hq, ne_eq, not_true_eq_false, Rg, tlt, tle, teq, tnI, ts1, tl0, tl1, tl2, tl3, tl4, tl5, tl6, tl7, tl8, tl9, tl10, tl11, tl12, tl13, tl14, tl15, tl16, tl24, tl30, tl33, tl60, tl84, tl96, tl99, tl100, tl200, tlm1, t44] at h1 h2 hc <;> omega)), fun h3 => ⟨fun h4 => (absurd hc (fun hc => by simp (disch := omega) only [n1, hq, ne_eq, not_true_eq_false, Rg, tlt, tle, teq, tnI, ts1, tl0, tl1, tl2, tl3, tl4, tl5, tl6, tl7, tl8, tl9, tl10, tl11, tl12, tl13, tl14, tl15, tl16, tl24, tl30, tl33, tl60, tl84, tl96, tl99, tl100, tl200, tlm1, t44] at h1 h3 h4 hc <;> omega)), fun h5 => ⟨fun h6 => (absurd hc (fun hc => by simp (disch := omega) only [n1, hq, ne_eq, not_true_eq_false, Rg, tlt, tle, teq, tnI, ts1, tl0, tl1, tl2, tl3, tl4, tl5, tl6, tl7, tl8, tl9, tl10, tl11, tl12, tl13, tl14, tl15, tl16, tl24, tl30, tl33, tl60, tl84, tl96, tl99, tl100, tl200, tlm1, t44] at h1 h3 h5 h6 hc <;> omega)), fun h7 => ⟨fun h8 => (absurd hc (fun hc => by simp (disch := omega) only [n1, hq, ne_eq, not_true_eq_false, Rg, tlt, tle, teq, tnI, ts1, tl0, tl1, tl2, tl3, tl4, tl5, tl6, tl7, tl8, tl9, tl10, tl11, tl12, tl13, tl14, tl15, tl16, tl24, tl30, tl33, tl60, tl84, tl96, tl99, tl100, tl200, tlm1, t44] at h1 h3 h5 h7 h8 hc <;> omega)), fun h9 => ?_⟩⟩⟩⟩, fun h10 => (absurd hc (fun hc => by simp (disch := omega) only [n1, hq, ne_eq, not_true_eq_false, Rg, tlt, tle, teq, tnI, ts1, tl0, tl1, tl2, tl3, tl4, tl5, tl6, tl7, tl8, tl9, tl10, tl11, tl12, tl13, tl14, tl15, tl16, tl24, tl30, tl33, tl60, tl84, tl96, tl99, tl100, tl200, tlm1, t44] at h10 hc <;> omega))⟩
    refine sX6_look ld30 (by omega) hI hL (fun M1 hA1 hN => kV_i (bX7_journey_42 ?_))
    exact sX6_fewestWays (by omega) hI hN hf hp' (fun a ha => kI_i (bX7_journey_52 (hR2 M1 a (hA1.sub (by decide)) ha)))
  · have hB := hbad hc
    exact tX7_journey ⟨fun h1 => ⟨fun h2 => (hB), fun h3 => ⟨fun h4 => (hB), fun h5 => ⟨fun h6 => (hB), fun h7 => ⟨fun h8 => (hB), fun h9 => ((hc (by simp (disch := omega) only [n1, hq, ne_eq, not_true_eq_false, Rg, tlt, tle, teq, tnI, ts1, tl0, tl1, tl2, tl3, tl4, tl5, tl6, tl7, tl8, tl9, tl10, tl11, tl12, tl13, tl14, tl15, tl16, tl24, tl30, tl33, tl60, tl84, tl96, tl99, tl100, tl200, tlm1, t44] at h1 h3 h5 h7 h9 ⊢ <;> omega)).elim)⟩⟩⟩⟩, fun h10 => (hB)⟩
theorem M_journey {x f p : Int32} (hD : 32 ≤ D) (hIS : IS M) (hbad : ¬ (Rg (2 ^ np (M 101)) x ∧ Rg 10 f ∧ Rg 10 p) → R (some (.int (-1000000001))) M) (hR : Rg (2 ^ np (M 101)) x ∧ Rg 10 f ∧ Rg 10 p → ∀ M' a, Ag scY M M' → M' 101 = M 101 → Jn (M 101) x (ix f) (ix p) a → R (some (.int a)) M') : Tr l G D mX8_journey [.ref (G.1 100), .int x, .int f, .int p] M R := by
  obtain ⟨d, rfl⟩ := dE (show 4 ≤ D by omega)
  have hI := hIS.1.1
  have hp := hI.1.2
  have m0 : M 101 0 = nI (np (M 101)) := hI.1.1
  have em : ((1 : Int32) <<< (nI (np (M 101)) &&& 31)) - 1 = nI (2 ^ np (M 101) - 1) := mk_is _ hp
  have h2 := p2_le hp
  have h3 := p2_pos (np (M 101))
  by_cases hc : Rg (2 ^ np (M 101)) x ∧ Rg 10 f ∧ Rg 10 p
  · have hR2 := hR hc
    obtain ⟨f, hf, rfl⟩ := hc.2.1.ex
    obtain ⟨p, hp', rfl⟩ := hc.2.2.ex
    rw [ix_nI (show f < 2 ^ 31 by omega), ix_nI (show p < 2 ^ 31 by omega)] at hR2
    refine tX8_journey ⟨fun h1 => ⟨fun h2 => ⟨fun h3 => ⟨fun h4 => ⟨fun h5 => ⟨fun h6 => ?_, fun h7 => (absurd hc (fun hc => by simp (disch := omega) only [m0, em, ne_eq, not_true_eq_false, Rg, tlt, tle, teq, tnI, ts1, tl0, tl1, tl2, tl3, tl4, tl5, tl6, tl7, tl8, tl9, tl10, tl11, tl12, tl13, tl14, tl15, tl16, tl24, tl30, tl33, tl60, tl84, tl96, tl99, tl100, tl200, tlm1, t44] at h1 h2 h3 h4 h5 h7 hc <;> omega))⟩, fun h8 => (absurd hc (fun hc => by simp (disch := omega) only [m0, em, ne_eq, not_true_eq_false, Rg, tlt, tle, teq, tnI, ts1, tl0, tl1, tl2, tl3, tl4, tl5, tl6, tl7, tl8, tl9, tl10, tl11, tl12, tl13, tl14, tl15, tl16, tl24, tl30, tl33, tl60, tl84, tl96, tl99, tl100, tl200, tlm1, t44] at h1 h2 h3 h4 h8 hc <;> omega))⟩, fun h9 => (absurd hc (fun hc => by simp (disch := omega) only [m0, em, ne_eq, not_true_eq_false, Rg, tlt, tle, teq, tnI, ts1, tl0, tl1, tl2, tl3, tl4, tl5, tl6, tl7, tl8, tl9, tl10, tl11, tl12, tl13, tl14, tl15, tl16, tl24, tl30, tl33, tl60, tl84, tl96, tl99, tl100, tl200, tlm1, t44] at h1 h2 h3 h9 hc <;> omega))⟩, fun h10 => (absurd hc (fun hc => by simp (disch := omega) only [m0, em, ne_eq, not_true_eq_false, Rg, tlt, tle, teq, tnI, ts1, tl0, tl1, tl2, tl3, tl4, tl5, tl6, tl7, tl8, tl9, tl10, tl11, tl12, tl13, tl14, tl15, tl16, tl24, tl30, tl33, tl60, tl84, tl96, tl99, tl100, tl200, tlm1, t44] at h1 h2 h10 hc <;> omega))⟩, fun h11 => (absurd hc (fun hc => by simp (disch := omega) only [m0, em, ne_eq, not_true_eq_false, Rg, tlt, tle, teq, tnI, ts1, tl0, tl1, tl2, tl3, tl4, tl5, tl6, tl7, tl8, tl9, tl10, tl11, tl12, tl13, tl14, tl15, tl16, tl24, tl30, tl33, tl60, tl84, tl96, tl99, tl100, tl200, tlm1, t44] at h1 h11 hc <;> omega))⟩, fun h12 => (absurd hc (fun hc => by simp (disch := omega) only [m0, em, ne_eq, not_true_eq_false, Rg, tlt, tle, teq, tnI, ts1, tl0, tl1, tl2, tl3, tl4, tl5, tl6, tl7, tl8, tl9, tl10, tl11, tl12, tl13, tl14, tl15, tl16, tl24, tl30, tl33, tl60, tl84, tl96, tl99, tl100, tl200, tlm1, t44] at h12 hc <;> omega))⟩
    refine sX8_journeyOf (by omega) hI hf hp' (fun M1 a hA1 ha => kI_i (bX8_journey_38 ?_))
    have e1 := hA1 101 (by decide)
    rcases ha with ⟨h1, h4⟩ | ⟨t, h1, h4, h5⟩
    · subst h1
      exact ⟨fun h => absurd h (by decide), fun _ => hR2 M1 _ (hA1.sub (by decide)) e1 (Or.inl ⟨rfl, h4⟩)⟩
    · subst h4
      exact ⟨fun _ => hR2 M1 _ (hA1.sub (by decide)) e1 (Or.inr ⟨t, h1, rfl, h5⟩), fun h => absurd (zl t (by omega)) h⟩
  · have hB := hbad hc
    exact tX8_journey ⟨fun h1 => ⟨fun h2 => ⟨fun h3 => ⟨fun h4 => ⟨fun h5 => ⟨fun h6 => ((hc (by simp (disch := omega) only [m0, em, ne_eq, not_true_eq_false, Rg, tlt, tle, teq, tnI, ts1, tl0, tl1, tl2, tl3, tl4, tl5, tl6, tl7, tl8, tl9, tl10, tl11, tl12, tl13, tl14, tl15, tl16, tl24, tl30, tl33, tl60, tl84, tl96, tl99, tl100, tl200, tlm1, t44] at h1 h2 h3 h4 h5 h6 ⊢ <;> omega)).elim), fun h7 => (hB)⟩, fun h8 => (hB)⟩, fun h9 => (hB)⟩, fun h10 => (hB)⟩, fun h11 => (hB)⟩, fun h12 => (hB)⟩
end
