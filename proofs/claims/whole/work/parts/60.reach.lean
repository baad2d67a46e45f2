-- reach
theorem rc_lt {s : Nat → Int32} {x : Int32} {f : Nat} (hI : Inv s) (hf : f < 10) : ∀ t p, p < 32 → Rc s x f t p → p < 10
  | 0, p, _, h => by rw [show p = f from h]; exact hf
  | t + 1, p, hp, h => by
    rcases h with h | ⟨q, hq, -, k, -, -, w, hw, h⟩
    · exact rc_lt hI hf t p hp h
    · exact sp_lt (k := k) hI hq hw hp h
/-- the places reached -/
def Rh (s : Nat → Int32) (x : Int32) (f : Nat) (y : Int32) : Prop := ∀ p, p < 32 → (bt y p = true ↔ (p < 10 ∧ Rc s x f 9 p))
theorem rh_uq {s : Nat → Int32} {x : Int32} {f : Nat} {y z : Int32} (h : Rh s x f y) (g : Rh s x f z) : y = z := by
  apply b_ext
  intro i hi
  have e := (h i hi).trans (g i hi).symm
  cases hy : bt y i <;> cases hz : bt z i <;> simp_all
section
variable {l : Launch} {G : GT} {D : Nat} {M : Mem} {R : Option Value → Mem → Prop} {b : Nat} {s : Nat → Int32}
theorem X_reach {k : Int32} (hD : 32 ≤ D) (hRel : Rel M) (hbad : ¬ (Rg (np (M 101)) k) → R (some (.int (-1000000001))) M) (hR : Rg (np (M 101)) k → ∀ M' a, Ag scX M M' → Rh (M 101) ((1 : Int32) <<< (k &&& 31)) (ix (pl (M 101) (ix k))) a → R (some (.int a)) M') : Tr l G D mX7_reach [.ref (G.1 0), .int k] M R := by
  obtain ⟨d, rfl⟩ := dE (show 4 ≤ D by omega)
  have hL := hRel.1.1.1
  have hI := hRel.2.1.1
  have hp := hI.1.2
  have n1 : M 30 1 = nI (np (M 101)) := hL.1.1.trans hI.1.1
  by_cases hc : Rg (np (M 101)) k
  · have hR2 := hR hc
    obtain ⟨k, hk, rfl⟩ := hc.ex
    obtain ⟨f, hf, ef⟩ := (hI.2.2.2.1 k hk).2.1
    rw [ix_nI (show k < 2 ^ 31 by omega), ef, ix_nI (show f < 2 ^ 31 by omega)] at hR2
    refine tX7_reach ⟨fun h1 => (absurd hc (fun hc => by simp (disch := omega) only [n1, ne_eq, not_true_eq_false, Rg, tlt, tle, teq, tnI, ts1, tl0, tl1, tl2, tl3, tl4, tl5, tl6, tl7, tl8, tl9, tl10, tl11, tl12, tl13, tl14, tl15, tl16, tl24, tl30, tl33, tl60, tl84, tl96, tl99, tl100, tl200, tlm1, t44] at h1 hc <;> omega)), fun h2 => ⟨fun h3 => (absurd hc (fun hc => by simp (disch := omega) only [n1, ne_eq, not_true_eq_false, Rg, tlt, tle, teq, tnI, ts1, tl0, tl1, tl2, tl3, tl4, tl5, tl6, tl7, tl8, tl9, tl10, tl11, tl12, tl13, tl14, tl15, tl16, tl24, tl30, tl33, tl60, tl84, tl96, tl99, tl100, tl200, tlm1, t44] at h2 h3 hc <;> omega)), fun h4 => ?_⟩⟩
    refine sX6_look ld30 (by omega) hI hL (fun M1 hA1 hN => kV_i (bX7_reach_22 ⟨vpn (by omega) (by decide), ?_⟩))
    rw [ix_nI (show k < 2 ^ 31 by omega), hA1 32 (by decide), show M 32 k = nI f from (hL.2.2.1 k (by omega)).trans ef]
    exact sX6_reached (by omega) hI hN hf (fun y hy => kI_i (bX7_reach_41 (hR2 M1 y (hA1.sub (by decide)) (fun p hp => (hy p hp).trans ⟨fun h => ⟨rc_lt hI hf 9 p hp h, h⟩, fun h => h.2⟩))))
  · have hB := hbad hc
    exact tX7_reach ⟨fun h1 => (hB), fun h2 => ⟨fun h3 => (hB), fun h4 => ((hc (by simp (disch := omega) only [n1, ne_eq, not_true_eq_false, Rg, tlt, tle, teq, tnI, ts1, tl0, tl1, tl2, tl3, tl4, tl5, tl6, tl7, tl8, tl9, tl10, tl11, tl12, tl13, tl14, tl15, tl16, tl24, tl30, tl33, tl60, tl84, tl96, tl99, tl100, tl200, tlm1, t44] at h2 h4 ⊢ <;> omega)).elim)⟩⟩
theorem M_reach {k : Int32} (hD : 32 ≤ D) (hIS : IS M) (hbad : ¬ (Rg (np (M 101)) k) → R (some (.int (-1000000001))) M) (hR : Rg (np (M 101)) k → ∀ M' a, Ag scY M M' → M' 101 = M 101 → Rh (M 101) ((1 : Int32) <<< (k &&& 31)) (ix (pl (M 101) (ix k))) a → R (some (.int a)) M') : Tr l G D mX8_reach [.ref (G.1 100), .int k] M R := by
  obtain ⟨d, rfl⟩ := dE (show 4 ≤ D by omega)
  have hI := hIS.1.1
  have hp := hI.1.2
  have m0 : M 101 0 = nI (np (M 101)) := hI.1.1
  by_cases hc : Rg (np (M 101)) k
  · have hR2 := hR hc
    obtain ⟨k, hk, rfl⟩ := hc.ex
    obtain ⟨f, hf, ef⟩ := (hI.2.2.2.1 k hk).2.1
    rw [ix_nI (show k < 2 ^ 31 by omega), ef, ix_nI (show f < 2 ^ 31 by omega)] at hR2
    refine tX8_reach ⟨fun h1 => ⟨fun h2 => ⟨?_, ?_⟩, fun h3 => (absurd hc (fun hc => by simp (disch := omega) only [m0, ne_eq, not_true_eq_false, Rg, tlt, tle, teq, tnI, ts1, tl0, tl1, tl2, tl3, tl4, tl5, tl6, tl7, tl8, tl9, tl10, tl11, tl12, tl13, tl14, tl15, tl16, tl24, tl30, tl33, tl60, tl84, tl96, tl99, tl100, tl200, tlm1, t44] at h1 h3 hc <;> omega))⟩, fun h4 => (absurd hc (fun hc => by simp (disch := omega) only [m0, ne_eq, not_true_eq_false, Rg, tlt, tle, teq, tnI, ts1, tl0, tl1, tl2, tl3, tl4, tl5, tl6, tl7, tl8, tl9, tl10, tl11, tl12, tl13, tl14, tl15, tl16, tl24, tl30, tl33, tl60, tl84, tl96, tl99, tl100, tl200, tlm1, t44] at h4 hc <;> omega))⟩
    · exact v1 (by omega)
    · rw [e1 (by omega), show M 101 (11 + 4 * k) = nI f from ef]
      refine sX8_findsWays (f := f) (by omega) hI hf (fun M1 hA1 hF => kV_i (bX8_reach_24 ?_))
      have loop : ∀ i, i ≤ 10 → ∀ v, (∀ p, p < 32 → (bt v p = true ↔ (p < i ∧ Rc (M 101) ((1 : Int32) <<< (nI k &&& 31)) f 9 p))) → At l G (d + 4) mX8_reach 28 [some (.ref (G.1 100)), none, some (.int v), some (.int (nI i))] [] M1 R := by
        refine upL (fun i => ∀ v, (∀ p, p < 32 → (bt v p = true ↔ (p < i ∧ Rc (M 101) ((1 : Int32) <<< (nI k &&& 31)) f 9 p))) → At l G (d + 4) mX8_reach 28 [some (.ref (G.1 100)), none, some (.int v), some (.int (nI i))] [] M1 R) 10 ?_ ?_
        · intro v hv
          exact bX8_reach_28 ⟨fun _ => hR2 M1 v (hA1.sub (by decide)) (hA1 101 (by decide)) hv, fun h => absurd (by decide : (10 : Int32) ≤ nI 10) h⟩
        · intro i hi ih v hv
          refine bX8_reach_28 ⟨fun h => absurd h (by rw [show (10 : Int32) = nI 10 from rfl, le_nI (by omega) (by omega)]; omega), fun _ => ⟨vpn hi (by decide), fun h => ?_, fun h => ?_⟩⟩
          · rw [ix_nI (by omega)] at h
            rw [p1, orz]
            refine ih v (fun p hp => (hv p hp).trans ⟨fun g => ⟨by omega, g.2⟩, fun g => ⟨?_, g.2⟩⟩)
            by_cases e : p = i
            · rw [e] at g
              rcases hF i hi with ⟨t, ht, h1, h2⟩ | ⟨-, h2⟩
              · rw [h1] at h
                exact absurd (zl t (by omega)) (Int32.not_le.mpr h)
              · exact absurd (rc_mono (by decide) g.2) h2
            · omega
          · rw [ix_nI (by omega)] at h
            rw [p1]
            refine ih _ (fun p hp => (bt_or1 (by omega)).trans ⟨fun g => ?_, fun g => ?_⟩)
            · rcases g with g | g
              · have := (hv p hp).mp g
                exact ⟨by omega, this.2⟩
              · rw [g]
                rcases hF i hi with ⟨t, ht, h1, h2⟩ | ⟨h1, -⟩
                · exact ⟨by omega, rc_9 hi h2.1⟩
                · rw [h1] at h
                  exact absurd (by decide : (-1 : Int32) < 0) h
            · by_cases e : p = i
              · exact Or.inr e
              · exact Or.inl ((hv p hp).mpr ⟨by omega, g.2⟩)
      exact loop 0 (by omega) 0 (fun p hp => ⟨fun h => absurd h (bt_z p), fun h => absurd h.1 (Nat.not_lt_zero p)⟩)
  · have hB := hbad hc
    exact tX8_reach ⟨fun h1 => ⟨fun h2 => ⟨((hc (by simp (disch := omega) only [m0, ne_eq, not_true_eq_false, Rg, tlt, tle, teq, tnI, ts1, tl0, tl1, tl2, tl3, tl4, tl5, tl6, tl7, tl8, tl9, tl10, tl11, tl12, tl13, tl14, tl15, tl16, tl24, tl30, tl33, tl60, tl84, tl96, tl99, tl100, tl200, tlm1, t44] at h1 h2 ⊢ <;> omega)).elim), ((hc (by simp (disch := omega) only [m0, ne_eq, not_true_eq_false, Rg, tlt, tle, teq, tnI, ts1, tl0, tl1, tl2, tl3, tl4, tl5, tl6, tl7, tl8, tl9, tl10, tl11, tl12, tl13, tl14, tl15, tl16, tl24, tl30, tl33, tl60, tl84, tl96, tl99, tl100, tl200, tlm1, t44] at h1 h2 ⊢ <;> omega)).elim)⟩, fun h3 => (hB)⟩, fun h4 => (hB)⟩
end
