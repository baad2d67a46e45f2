-- lay, the reference
section
variable {l : Launch} {G : GT} {D : Nat} {M : Mem} {R : Option Value → Mem → Prop} {b : Nat}
theorem i24c {k j : Nat} (hk : k < 5) (hj : j < 24) : ix (24 * nI k + nI j) = 24 * k + j := by rw [i24 hk hj, ix_nI (by omega)]
theorem M_lay {j q k : Int32} (hD : 12 ≤ D) (hIS : IS M) (hbad : ¬ (Rg 5 j ∧ Gd M q k) → R (some (.int (-1000000001))) M) (hno : Rg 5 j → q = 2 → Rg 4 k → M 104 (ix k) = -1 → R (some (.int (-1000000011))) M) (hR : Rg 5 j → Gd M q k → (q = 2 → ¬ M 104 (ix k) = -1) → ∀ M', LayM M M' (ix j) q k → R (some (.int (M 107 (ix j)))) M') : Tr l G D mX8_lay [.ref (G.1 100), .int j, .int q, .int k] M R := by
  obtain ⟨d, rfl⟩ := dE (show 4 ≤ D by omega)
  have m0 : M 101 0 = nI (np (M 101)) := hIS.1.1.1.1
  have hp := hIS.1.1.1.2
  have at129 : ∀ (j : Nat) (M1 : Mem) (w : Int32), j < 5 → (∀ M', Ag [109, 110, 111] M1 M' → (∀ i, i ≠ j → M' 109 i = M1 109 i ∧ M' 110 i = M1 110 i) → (∀ i, i < 24 * j ∨ 24 * j + 24 ≤ i → M' 111 i = M1 111 i) → M' 109 j = w → (q = 2 → M' 110 j = M1 105 (ix k) ∧ ∀ i, i < 24 → M' 111 (24 * j + i) = M1 106 (24 * ix k + i)) → (¬ q = 2 → M' 110 j = M1 110 j) → R (some (.int (M 107 j))) M') → (q = 2 → Rg 4 k) → At l G (d + 4) mX8_lay 129 [some (.ref (G.1 100)), some (.int (nI j)), some (.int q), some (.int k), none, some (.int (M 107 j)), none] [.int w, .int (nI j), .ref (G.1 109)] M1 R := by
    intro j M1 w hj hR hk
    have xj := ix_nI (show j < 2 ^ 31 by omega)
    refine bX8_lay_129 ⟨vpn hj (by decide), fun h2 => ?_, fun h2 => ?_⟩
    · obtain ⟨a, ha, rfl⟩ := (hk h2).ex
      have xa := ix_nI (show a < 2 ^ 31 by omega)
      rw [xa] at hR
      refine ⟨vpn ha (by decide), vpn hj (by decide), fun M5 e5 => ?_⟩
      rw [xj, xa, um_n _ _ _ (by decide)] at e5
      have loop : ∀ i, i ≤ 24 → ∀ M', Ag [111] M5 M' → (∀ c, c < i → M' 111 (24 * j + c) = M1 106 (24 * a + c)) → (∀ i, i < 24 * j ∨ 24 * j + 24 ≤ i → M' 111 i = M1 111 i) → At l G (d + 4) mX8_lay 150 [some (.ref (G.1 100)), some (.int (nI j)), none, some (.int (nI a)), none, some (.int (M 107 j)), some (.int (nI i))] [] M' R := by
        refine upL (fun i => ∀ M', Ag [111] M5 M' → (∀ c, c < i → M' 111 (24 * j + c) = M1 106 (24 * a + c)) → (∀ i, i < 24 * j ∨ 24 * j + 24 ≤ i → M' 111 i = M1 111 i) → At l G (d + 4) mX8_lay 150 [some (.ref (G.1 100)), some (.int (nI j)), none, some (.int (nI a)), none, some (.int (M 107 j)), some (.int (nI i))] [] M' R) 24 ?_ ?_
        · intro M' hA hr ho
          refine bX8_lay_150 ⟨fun _ => bX8_lay_187 (hR M' ?_ ?_ ho ?_ ?_ ?_), fun h => absurd (by decide : (24 : Int32) ≤ nI 24) h⟩
          · refine Ag.tr ?_ (hA.sub (by decide))
            rw [e5]
            exact ((Ag.rf _ M1).ua (by decide) _).ua (by decide) _
          · intro i hi
            rw [hA 109 (by decide), hA 110 (by decide), e5, um_n _ _ _ (by decide), um_s, pk_un hi, um_s, pk_un hi, um_n _ _ _ (by decide)]
            exact ⟨rfl, rfl⟩
          · rw [hA 109 (by decide), e5, um_n _ _ _ (by decide), um_s, pk_us]
          · intro _
            rw [hA 110 (by decide), e5, um_s, pk_us]
            exact ⟨rfl, hr⟩
          · intro h; exact absurd h2 h
        · intro i hi ih M' hA hr ho
          refine bX8_lay_150 ⟨fun h => absurd h (by rw [show (24 : Int32) = nI 24 from rfl, le_nI (by omega) (by omega)]; omega), fun _ => ⟨?_, ?_, ?_⟩⟩
          · rw [i24b ha hi]; exact vpn (by omega) (by decide)
          · rw [i24 hj hi]; exact vpn (by omega) (by decide)
          · rw [i24c hj hi, i24c (by omega) hi, p1]
            have e106 : M' 106 = M1 106 := by rw [hA 106 (by decide), e5, um_n _ _ _ (by decide), um_n _ _ _ (by decide)]
            refine ih _ (hA.ua (by decide) _) (fun c hc => ?_) (fun c hc => ?_)
            · rw [um_s, e106]
              by_cases e : c = i
              · rw [e, pk_us]
              · rw [pk_un (by omega)]; exact hr c (by omega)
            · rw [um_s, pk_un (by omega)]; exact ho c hc
      refine loop 0 (Nat.zero_le _) M5 (Ag.rf _ _) (fun c hc => absurd hc (Nat.not_lt_zero c)) (fun i _ => ?_)
      rw [e5, um_n _ _ _ (by decide), um_n _ _ _ (by decide)]
    · rw [xj]
      refine bX8_lay_187 (hR _ ((Ag.rf _ M1).ua (by decide) _) (fun i hi => ?_) (fun i _ => by rw [um_n _ _ _ (by decide)]) (by rw [um_s, pk_us]) (fun h => absurd h h2) (fun _ => by rw [um_n _ _ _ (by decide)]))
      rw [um_s, pk_un hi, um_n _ _ _ (by decide)]
      exact ⟨rfl, rfl⟩
  have at74 : Rg 5 j → Gd M q k → (q = 2 → ¬ M 104 (ix k) = -1) → At l G (d + 4) mX8_lay 74 [some (.ref (G.1 100)), some (.int j), some (.int q), some (.int k), none, none, none] [] M R := by
    intro rj hg hm
    have hR := hR rj hg hm
    obtain ⟨j, hj, rfl⟩ := rj.ex
    have xj := ix_nI (show j < 2 ^ 31 by omega)
    rw [xj] at hR
    have r4 : q = 2 → Rg 4 k := fun h2 => by
      rcases hg with e | e | e | e
      · rw [h2] at e; exact absurd e (by decide)
      · rw [h2] at e; exact absurd e (by decide)
      · have e := e.1; rw [h2] at e; exact absurd e (by decide)
      · exact e.2
    have fin : ∀ (v w : Int32) (M1 : Mem), M1 = um (um M 107 j q) 108 j v → (q = 1 → v = kd (M 101) (ix k) ∧ w = woS (kd (M 101) (ix k)) (sk (M 101) (ix k))) → (q = 3 → v = k) → At l G (d + 4) mX8_lay 129 [some (.ref (G.1 100)), some (.int (nI j)), some (.int q), some (.int k), none, some (.int (M 107 j)), none] [.int w, .int (nI j), .ref (G.1 109)] M1 R := by
      intro v w M1 e1 hv1 hv3
      have c : ∀ a, a ≠ 107 → a ≠ 108 → M1 a = M a := fun a h1 h2 => by rw [e1, um_n _ _ _ h2, um_n _ _ _ h1]
      have c107 : M1 107 = upd (M 107) j q := by rw [e1, um_n _ _ _ (by decide), um_s]
      have c108 : M1 108 = upd (M 108) j v := by rw [e1, um_s, um_n _ _ _ (by decide)]
      refine at129 j M1 w hj (fun M' hA g1 g2 g3 g4 g5 => hR M' ⟨?_, ?_, ?_, ?_, ?_, ?_, ?_, ?_⟩) r4
      · refine Ag.tr ?_ (hA.sub (by decide))
        rw [e1]
        exact ((Ag.rf _ M).ua (by decide) _).ua (by decide) _
      · intro i hi
        obtain ⟨u1, u2⟩ := g1 i hi
        rw [hA 107 (by decide), hA 108 (by decide), u1, u2, c107, c108, pk_un hi, pk_un hi, c 109 (by decide) (by decide), c 110 (by decide) (by decide)]
        exact ⟨rfl, rfl, rfl, rfl⟩
      · intro i hi
        rw [g2 i hi, c 111 (by decide) (by decide)]
      · rw [hA 107 (by decide), c107, pk_us]
      · intro h
        rw [hA 108 (by decide), c108, pk_us, g3]
        exact hv1 h
      · intro h
        obtain ⟨u1, u2⟩ := g4 h
        rw [u1, c 105 (by decide) (by decide)]
        exact ⟨rfl, fun i hi => by rw [u2 i hi, c 106 (by decide) (by decide)]⟩
      · intro h
        rw [hA 108 (by decide), c108, pk_us]
        exact hv3 h
      · intro h
        rw [g5 h, c 110 (by decide) (by decide)]
    refine bX8_lay_74 ⟨vpn hj (by decide), vpn hj (by decide), fun h1 => ?_, fun h1 => ?_⟩
    · have hr : Rg (np (M 101)) k := by
        rcases hg with e | e | e | e
        · rw [h1] at e; exact absurd e (by decide)
        · rw [h1] at e; exact absurd e (by decide)
        · exact e.2
        · have e := e.1; rw [h1] at e; exact absurd e (by decide)
      obtain ⟨a, ha, rfl⟩ := hr.ex
      have xa := ix_nI (show a < 2 ^ 31 by omega)
      rw [xa] at fin
      obtain ⟨m, hm, em⟩ := sk_sm hIS.1.1 ha
      refine ⟨v0 (by omega), ?_⟩
      rw [e0 (by omega), um_n _ _ _ (by decide), xj]
      refine bX8_lay_109 ⟨vpn hj (by decide), fun _ => ?_, fun h => absurd h1 h⟩
      rw [xj]
      have c101 : (um (um M 107 j q) 108 j (M 101 (10 + 4 * a))) 101 = M 101 := by rw [um_n _ _ _ (by decide), um_n _ _ _ (by decide)]
      refine sX8_worth (by omega) (by omega) hm (by rw [c101]; exact em) (kI_i (bX8_lay_125 (fin _ _ _ rfl (fun _ => ⟨rfl, ?_⟩) (fun h => absurd (h1.symm.trans h) (by decide)))))
      rw [c101]
    · rw [xj]
      refine bX8_lay_109 ⟨vpn hj (by decide), fun h => absurd h h1, fun _ => ?_⟩
      rw [xj]
      exact fin k 0 _ rfl (fun h => absurd h h1) (fun _ => rfl)
  have at39 : ∀ t : Int32, (t = 0 ∧ ¬ Gd M q k ∨ t = 1 ∧ Gd M q k) → At l G (d + 4) mX8_lay 39 [some (.ref (G.1 100)), some (.int j), some (.int q), some (.int k), none, none, none] [.int t] M R := by
    intro t ht
    have B53 : ¬ (Rg 5 j ∧ Gd M q k) → At l G (d + 4) mX8_lay 53 [none, none, none, none, none, none, none] [] M R := fun h => bX8_lay_53 (hbad h)
    refine bX8_lay_39 ⟨fun h1 => ⟨fun h2 => ⟨fun h3 => B53 (fun w => ?_), fun h3 => ?_⟩, fun h => B53 (fun w => ?_)⟩, fun h => B53 (fun w => ?_)⟩
    · rcases ht with e | e
      · exact e.2 w.2
      · exact absurd (h3.symm.trans e.1) (by decide)
    · have hg : Gd M q k := ht.elim (fun e => absurd e.1 h3) (fun e => e.2)
      have rj : Rg 5 j := by simp (disch := omega) only [ne_eq, not_true_eq_false, Rg, tlt, tle, teq, tnI, ts1, tl0, tl1, tl2, tl3, tl4, tl5, tl6, tl7, tl8, tl9, tl10, tl11, tl12, tl13, tl14, tl15, tl16, tl24, tl30, tl33, tl60, tl84, tl96, tl99, tl100, tl200, tlm1, t44] at h1 h2 ⊢ <;> omega
      refine ⟨fun h4 => ?_, fun h4 => at74 rj hg (fun e => absurd e h4)⟩
      have r4 : Rg 4 k := by
        rcases hg with e | e | e | e
        · rw [h4] at e; exact absurd e (by decide)
        · rw [h4] at e; exact absurd e (by decide)
        · have e := e.1; rw [h4] at e; exact absurd e (by decide)
        · exact e.2
      have r4' := r4
      obtain ⟨a, ha, rfl⟩ := r4.ex
      have w1 := (hIS.2.2.2.1 a ha).1
      have xa := ix_nI (show a < 2 ^ 31 by omega)
      have hno := hno rj h4 r4'
      have at74 := at74 rj hg
      rw [xa] at hno at74 ⊢
      refine ⟨vpn ha (by decide), fun h => at74 (fun _ e => by rw [e] at h; exact absurd h (by decide)), fun h => hno ?_⟩
      rcases w1 with q | q | q
      · exact q
      · rw [q] at h; exact absurd (by decide) h
      · rw [q] at h; exact absurd (by decide) h
    · have w := w.1; simp (disch := omega) only [ne_eq, not_true_eq_false, Rg, tlt, tle, teq, tnI, ts1, tl0, tl1, tl2, tl3, tl4, tl5, tl6, tl7, tl8, tl9, tl10, tl11, tl12, tl13, tl14, tl15, tl16, tl24, tl30, tl33, tl60, tl84, tl96, tl99, tl100, tl200, tlm1, t44] at h w <;> omega
    · have w := w.1; simp (disch := omega) only [ne_eq, not_true_eq_false, Rg, tlt, tle, teq, tnI, ts1, tl0, tl1, tl2, tl3, tl4, tl5, tl6, tl7, tl8, tl9, tl10, tl11, tl12, tl13, tl14, tl15, tl16, tl24, tl30, tl33, tl60, tl84, tl96, tl99, tl100, tl200, tlm1, t44] at h w <;> omega
  have at34 : Gd M q k → At l G (d + 4) mX8_lay 34 [some (.ref (G.1 100)), some (.int j), some (.int q), some (.int k), none, none, none] [] M R := fun h => bX8_lay_34 (at39 1 (Or.inr ⟨rfl, h⟩))
  have at38 : ¬ Gd M q k → At l G (d + 4) mX8_lay 38 [some (.ref (G.1 100)), some (.int j), some (.int q), some (.int k), none, none, none] [] M R := fun h => bX8_lay_38 (at39 0 (Or.inl ⟨rfl, h⟩))
  have at22 : (Gd M q k → q = 2) → At l G (d + 4) mX8_lay 22 [some (.ref (G.1 100)), some (.int j), some (.int q), some (.int k), none, none, none] [] M R := by
    intro hz
    refine bX8_lay_22 ⟨fun h1 => ⟨fun h2 => ⟨fun h3 => at34 (Or.inr (Or.inr (Or.inr ⟨h1, ?_⟩))), fun h => at38 (fun w => ?_)⟩, fun h => at38 (fun w => ?_)⟩, fun h1 => at38 (fun w => h1 (hz w))⟩
    · simp (disch := omega) only [ne_eq, not_true_eq_false, Rg, tlt, tle, teq, tnI, ts1, tl0, tl1, tl2, tl3, tl4, tl5, tl6, tl7, tl8, tl9, tl10, tl11, tl12, tl13, tl14, tl15, tl16, tl24, tl30, tl33, tl60, tl84, tl96, tl99, tl100, tl200, tlm1, t44] at h2 h3 ⊢ <;> omega
    · rcases w with e | e | e | e
      · rw [h1] at e; exact absurd e (by decide)
      · rw [h1] at e; exact absurd e (by decide)
      · have e := e.1; rw [h1] at e; exact absurd e (by decide)
      · have e := e.2; simp (disch := omega) only [ne_eq, not_true_eq_false, Rg, tlt, tle, teq, tnI, ts1, tl0, tl1, tl2, tl3, tl4, tl5, tl6, tl7, tl8, tl9, tl10, tl11, tl12, tl13, tl14, tl15, tl16, tl24, tl30, tl33, tl60, tl84, tl96, tl99, tl100, tl200, tlm1, t44] at h e <;> omega
    · rcases w with e | e | e | e
      · rw [h1] at e; exact absurd e (by decide)
      · rw [h1] at e; exact absurd e (by decide)
      · have e := e.1; rw [h1] at e; exact absurd e (by decide)
      · have e := e.2; simp (disch := omega) only [ne_eq, not_true_eq_false, Rg, tlt, tle, teq, tnI, ts1, tl0, tl1, tl2, tl3, tl4, tl5, tl6, tl7, tl8, tl9, tl10, tl11, tl12, tl13, tl14, tl15, tl16, tl24, tl30, tl33, tl60, tl84, tl96, tl99, tl100, tl200, tlm1, t44] at h e <;> omega
  refine tX8_lay ⟨fun h => at34 (Or.inl h), fun h1 => ⟨fun h => at34 (Or.inr (Or.inl h)), fun h2 => ⟨fun h3 => ⟨fun h4 => ⟨fun h5 => at34 (Or.inr (Or.inr (Or.inl ⟨h3, ?_⟩))), fun h => at22 (fun w => ?_)⟩, fun h => at22 (fun w => ?_)⟩, fun h3 => at22 (fun w => ?_)⟩⟩⟩
  · rw [m0] at h5; simp (disch := omega) only [ne_eq, not_true_eq_false, Rg, tlt, tle, teq, tnI, ts1, tl0, tl1, tl2, tl3, tl4, tl5, tl6, tl7, tl8, tl9, tl10, tl11, tl12, tl13, tl14, tl15, tl16, tl24, tl30, tl33, tl60, tl84, tl96, tl99, tl100, tl200, tlm1, t44] at h4 h5 ⊢ <;> omega
  · rcases w with e | e | e | e
    · exact absurd e h1
    · exact absurd e h2
    · have e := e.2; rw [m0] at h; simp (disch := omega) only [ne_eq, not_true_eq_false, Rg, tlt, tle, teq, tnI, ts1, tl0, tl1, tl2, tl3, tl4, tl5, tl6, tl7, tl8, tl9, tl10, tl11, tl12, tl13, tl14, tl15, tl16, tl24, tl30, tl33, tl60, tl84, tl96, tl99, tl100, tl200, tlm1, t44] at h e <;> omega
    · exact e.1
  · rcases w with e | e | e | e
    · exact absurd e h1
    · exact absurd e h2
    · have e := e.2; simp (disch := omega) only [ne_eq, not_true_eq_false, Rg, tlt, tle, teq, tnI, ts1, tl0, tl1, tl2, tl3, tl4, tl5, tl6, tl7, tl8, tl9, tl10, tl11, tl12, tl13, tl14, tl15, tl16, tl24, tl30, tl33, tl60, tl84, tl96, tl99, tl100, tl200, tlm1, t44] at h e <;> omega
    · exact e.1
  · rcases w with e | e | e | e
    · exact absurd e h1
    · exact absurd e h2
    · exact absurd e.1 h3
    · exact e.1
end
