section
variable {l : Launch} {G : GT} {M : Mem}
theorem P_copy {a p c t m : Int32} (h : Rel M) : Pr l G mX7_copy mX8_copy [.int a, .int p, .int c, .int t, .int m] M := by
  refine X_copy (by decide) h
    (fun hb => ⟨_, rfl, M_copy (by decide) h.2 (fun _ => ⟨rfl, h⟩) (fun a1 a2 _ => absurd ⟨a1, a2⟩ hb) (fun a1 a2 _ _ _ => absurd ⟨a1, a2⟩ hb) (fun a1 a2 _ _ _ _ => absurd ⟨a1, a2⟩ hb) (fun a1 a2 _ _ _ _ _ => absurd ⟨a1, a2⟩ hb)⟩)
    (fun a1 a2 a3 => ⟨_, rfl, M_copy (by decide) h.2 (fun hb => absurd ⟨a1, a2⟩ hb) (fun _ _ _ => ⟨rfl, h⟩) (fun _ _ b1 b2 _ => (a3.elim b1 b2).elim) (fun _ _ b1 b2 _ _ => (a3.elim b1 b2).elim) (fun _ _ b1 b2 _ _ _ => (a3.elim b1 b2).elim)⟩)
    (fun a1 a2 a3 a4 a5 => ⟨_, rfl, M_copy (by decide) h.2 (fun hb => absurd ⟨a1, a2⟩ hb) (fun _ _ b => (b.elim a3 a4).elim) (fun _ _ _ _ _ => ⟨rfl, h⟩) (fun _ _ _ _ b _ => absurd b a5) (fun _ _ _ _ b _ _ => absurd b a5)⟩)
    (fun a1 a2 a3 a4 a5 a6 => ⟨_, rfl, M_copy (by decide) h.2 (fun hb => absurd ⟨a1, a2⟩ hb) (fun _ _ b => (b.elim a3 a4).elim) (fun _ _ _ _ b => absurd a5 b) (fun _ _ _ _ _ _ => ⟨rfl, h⟩) (fun _ _ _ _ _ b1 b2 => absurd ⟨b1, b2⟩ a6)⟩)
    (fun a1 a2 a3 a4 a5 a6 a7 => ?_)
  obtain ⟨a, ha, rfl⟩ := a1.ex
  obtain ⟨c, hc, rfl⟩ := a2.ex
  have xa := ix_nI (show a < 2 ^ 31 by omega)
  have xc := ix_nI (show c < 2 ^ 31 by omega)
  obtain ⟨na, hna, ena⟩ := (h.2.2.2.2.1 a ha).2
  obtain ⟨nc, hnc, enc⟩ := (h.2.2.2.2.1 c hc).2
  have b6 := a6
  have b7 := a7
  rw [xa, ena, ix_nI (by omega)] at b6
  rw [xc, enc, ix_nI (by omega)] at b7
  obtain ⟨x, w, rfl, rfl, hxw⟩ := b6.ex
  obtain ⟨y, w2, rfl, ew, hyw⟩ := b7.ex
  have ew2 : w2 = w := by
    have := congrArg ix ew
    rw [ix_nI (by omega), ix_nI (by omega)] at this
    omega
  subst ew2
  have xx := ix_nI (show x < 2 ^ 31 by omega)
  have xy := ix_nI (show y < 2 ^ 31 by omega)
  have xw := ix_nI (show w2 < 2 ^ 31 by omega)
  rw [xa, xc, xx, xy, xw]
  have hA : Ag [70 + 2 * c + 1] M (ua M (70 + 2 * c + 1) (va_cpy (M (70 + 2 * a + 1)) (M (70 + 2 * c + 1)) x y w2)) := fun j hj => ua_n _ _ (by simpa using hj)
  have e1 := ua_s M (70 + 2 * c + 1) (va_cpy (M (70 + 2 * a + 1)) (M (70 + 2 * c + 1)) x y w2)
  generalize ua M (70 + 2 * c + 1) (va_cpy (M (70 + 2 * a + 1)) (M (70 + 2 * c + 1)) x y w2) = M1 at hA e1
  have hi : ∀ j, 100 ≤ j → M1 j = M j := fun j hj => hA j (by simp; omega)
  have h4 := hi 104 (by decide)
  have h5 := hi 105 (by decide)
  refine ⟨_, rfl, M_copy (by decide) (h.2.hi hi) (fun hb => absurd ⟨a1, a2⟩ hb) (fun _ _ b => ?_) (fun _ _ _ _ b => ?_) (fun _ _ _ _ _ b => ?_) (fun _ _ _ _ _ _ _ M2 hB g => ⟨rfl, ?_⟩)⟩
  · rw [h4] at b
    exact (b.elim a3 a4).elim
  · rw [h4] at b
    exact absurd a5 b
  · rw [h5] at b
    exact absurd ⟨a6, a7⟩ b
  · rw [xa, xc, xx, xy, xw, hi 106 (by decide)] at g
    have al : ∀ k, k ≠ 70 + 2 * c + 1 → k ≠ 106 → k ≠ 117 → M2 k = M k := fun k k1 k2 k3 => (hB k (by simp; omega)).trans (hA k (by simp; omega))
    have rr := h.1.2.2.2.1
    refine h.gen (fun k hk => al k (by omega) (by omega) (by omega)) (by rw [al 0 (by omega) (by omega) (by omega)]) (by rw [al 100 (by omega) (by omega) (by omega)])
      (h.1.2.2.1.of (by rw [al 21 (by omega) (by omega) (by omega)]) (al 22 (by omega) (by omega) (by omega)) (by rw [al 100 (by omega) (by omega) (by omega)]) (al 114 (by omega) (by omega) (by omega))) (fun j hj => ?_)
      (h.1.2.2.2.2.1.of (fun k hk => al k (by omega) (by omega) (by omega))) (h.1.2.2.2.2.2.of (by rw [al 0 (by omega) (by omega) (by omega)]) (al 63 (by omega) (by omega) (by omega)) (by rw [al 100 (by omega) (by omega) (by omega)]) (al 118 (by omega) (by omega) (by omega)))
      (h.2.2.2.1.of (by rw [al 100 (by omega) (by omega) (by omega)]) (al 114 (by omega) (by omega) (by omega))) (h.2.2.2.2.1.of (al 104 (by omega) (by omega) (by omega)) (al 105 (by omega) (by omega) (by omega))) (h.2.2.2.2.2.1.of (al 107 (by omega) (by omega) (by omega)) (al 110 (by omega) (by omega) (by omega))) (h.2.2.2.2.2.2.of (by rw [al 100 (by omega) (by omega) (by omega)]))
    obtain ⟨r1, r2, r3⟩ := rr j hj
    rw [al (70 + 2 * j) (by omega) (by omega) (by omega), al 104 (by omega) (by omega) (by omega), al 105 (by omega) (by omega) (by omega)]
    refine ⟨r1, r2, fun i hi2 => ?_⟩
    rw [show M2 106 (24 * j + i) = if 24 * c + y ≤ 24 * j + i ∧ 24 * j + i < 24 * c + y + w2 then M 106 (24 * a + x + (24 * j + i - (24 * c + y))) else M 106 (24 * j + i) from congrFun g _]
    by_cases ej : j = c
    · subst ej
      rw [hB (70 + 2 * j + 1) (by simp; omega), e1]
      unfold va_cpy
      by_cases q : y ≤ i ∧ i < y + w2
      · rw [if_pos q, if_pos ⟨by omega, by omega⟩, (rr a ha).2.2 (x + (i - y)) (by omega)]
        congr 1
        omega
      · rw [if_neg q, if_neg (by omega)]
        exact r3 i hi2
    · rw [al (70 + 2 * j + 1) (by omega) (by omega) (by omega), if_neg (by omega)]
      exact r3 i hi2
theorem P_tell {v : Int32} (h : Rel M) : Pr l G mX7_tell mX8_tell [.int v] M := by
  obtain ⟨n, hn, en⟩ := h.2.2.2.2.2.2
  have e0 : M 0 11 = nI n := h.1.2.2.2.2.2.1.trans en
  refine X_tell (n := n) (by decide) hn e0 (fun h6 => ⟨_, rfl, M_tell (n := n) (by decide) hn en (fun _ => ⟨rfl, h⟩) (fun q => by omega)⟩) (fun h6 => ?_)
  have e11 : (um (um M 63 n v) 0 11 (nI (n + 1))) 0 = upd (M 0) 11 (nI (n + 1)) := by rw [um_s, um_n _ _ _ (by decide)]
  have e63 : (um (um M 63 n v) 0 11 (nI (n + 1))) 63 = upd (M 63) n v := by rw [um_n _ _ _ (by decide), um_s]
  have hA : Ag [0, 63] M (um (um M 63 n v) 0 11 (nI (n + 1))) := fun j hj => by rw [um_n _ _ _ (by simp at hj; omega), um_n _ _ _ (by simp at hj; omega)]
  generalize um (um M 63 n v) 0 11 (nI (n + 1)) = M1 at e11 e63 hA
  refine ⟨_, rfl, M_tell (n := n) (by decide) hn (by rw [hA 100 (by decide)]; exact en) (fun q => by omega) (fun _ => ⟨rfl, ?_⟩)⟩
  have f11 : (um (um M1 118 n v) 100 30 (nI (n + 1))) 100 = upd (M 100) 30 (nI (n + 1)) := by rw [um_s, um_n _ _ _ (by decide), hA 100 (by decide)]
  have f63 : (um (um M1 118 n v) 100 30 (nI (n + 1))) 118 = upd (M 118) n v := by rw [um_n _ _ _ (by decide), um_s, hA 118 (by decide)]
  have hB : Ag [100, 118] M1 (um (um M1 118 n v) 100 30 (nI (n + 1))) := fun j hj => by rw [um_n _ _ _ (by simp at hj; omega), um_n _ _ _ (by simp at hj; omega)]
  generalize um (um M1 118 n v) 100 30 (nI (n + 1)) = M2 at f11 f63 hB
  have al : ∀ k, k ≠ 0 → k ≠ 63 → k ≠ 100 → k ≠ 118 → M2 k = M k := fun k k1 k2 k3 k4 => (hB k (by simp; omega)).trans (hA k (by simp; omega))
  have g0 : M2 0 = upd (M 0) 11 (nI (n + 1)) := (hB 0 (by decide)).trans e11
  have g63 : M2 63 = upd (M 63) n v := (hB 63 (by decide)).trans e63
  refine h.gen (fun k hk => al k (by omega) (by omega) (by omega) (by omega)) (by rw [g0, pk_un (by decide)]) (by rw [f11, pk_un (by decide)])
    (h.1.2.2.1.of (by rw [al 21 (by omega) (by omega) (by omega) (by omega)]) (al 22 (by omega) (by omega) (by omega) (by omega)) (by rw [f11, pk_un (by decide)]) (al 114 (by omega) (by omega) (by omega) (by omega))) (h.1.2.2.2.1.of (fun k hk => al k (by omega) (by omega) (by omega) (by omega)))
    (h.1.2.2.2.2.1.of (fun k hk => al k (by omega) (by omega) (by omega) (by omega))) ⟨?_, fun i hi => ?_⟩
    (h.2.2.2.1.of (by rw [f11, pk_un (by decide)]) (al 114 (by omega) (by omega) (by omega) (by omega))) (h.2.2.2.2.1.of (al 104 (by omega) (by omega) (by omega) (by omega)) (al 105 (by omega) (by omega) (by omega) (by omega))) (h.2.2.2.2.2.1.of (al 107 (by omega) (by omega) (by omega) (by omega)) (al 110 (by omega) (by omega) (by omega) (by omega))) ⟨n + 1, by omega, by rw [f11, pk_us]⟩
  · rw [g0, f11, pk_us, pk_us]
  · rw [g63, f63]
    by_cases q : i = n
    · subst q; rw [pk_us, pk_us]
    · rw [pk_un q, pk_un q]
      exact h.1.2.2.2.2.2.2 i hi
/-- the tape's length and its bytes, both sides -/
theorem Rel.tp {M M2 : Mem} (h : Rel M) {n : Nat} (hn : n ≤ 96) (al : ∀ k, k ≠ 21 → k ≠ 22 → k ≠ 100 → k ≠ 114 → M2 k = M k) (g21 : M2 21 1 = nI n) (g100 : M2 100 = upd (M 100) 15 (nI n)) (hb : ∀ i, i < 96 → M2 22 i = M2 114 i ∧ ∃ a, a < 256 ∧ M2 114 i = nI a) : Rel M2 := by
  refine h.gen (fun k hk => al k (by omega) (by omega) (by omega) (by omega)) (by rw [al 0 (by omega) (by omega) (by omega) (by omega)]) (by rw [g100, pk_un (by decide)])
    ⟨by rw [g21, g100, pk_us], fun i hi => (hb i hi).1⟩ (h.1.2.2.2.1.of (fun k hk => al k (by omega) (by omega) (by omega) (by omega)))
    (h.1.2.2.2.2.1.of (fun k hk => al k (by omega) (by omega) (by omega) (by omega))) (h.1.2.2.2.2.2.of (by rw [al 0 (by omega) (by omega) (by omega) (by omega)]) (al 63 (by omega) (by omega) (by omega) (by omega)) (by rw [g100, pk_un (by decide)]) (al 118 (by omega) (by omega) (by omega) (by omega)))
    ⟨n, hn, by rw [g100, pk_us], fun i hi => (hb i hi).2⟩ (h.2.2.2.2.1.of (al 104 (by omega) (by omega) (by omega) (by omega)) (al 105 (by omega) (by omega) (by omega) (by omega))) (h.2.2.2.2.2.1.of (al 107 (by omega) (by omega) (by omega) (by omega)) (al 110 (by omega) (by omega) (by omega) (by omega))) (h.2.2.2.2.2.2.of (by rw [g100, pk_un (by decide)]))
theorem P_trim {v : Int32} (h : Rel M) : Pr l G mX7_trim mX8_trim [.int v] M := by
  obtain ⟨n, hn, en, hby⟩ := h.2.2.2.1
  have e0 : M 21 1 = nI n := h.1.2.2.1.1.trans en
  refine X_trim (n := n) (by decide) hn e0 (fun hb => ⟨_, rfl, M_trim (n := n) (by decide) hn en (fun _ => ⟨rfl, h⟩) (fun q => absurd q hb)⟩) (fun hr => ?_)
  have e1 : (um M 21 1 v) 21 = upd (M 21) 1 v := um_s _ _ _ _
  have hA : Ag [21] M (um M 21 1 v) := fun j hj => um_n _ _ _ (by simpa using hj)
  generalize um M 21 1 v = M1 at e1 hA
  refine ⟨_, rfl, M_trim (n := n) (by decide) hn (by rw [hA 100 (by decide)]; exact en) (fun q => absurd hr q) (fun _ => ⟨rfl, ?_⟩)⟩
  obtain ⟨w, hw, rfl⟩ := hr.ex
  refine h.tp (n := w) (by omega) (fun k k1 k2 k3 k4 => ?_) ?_ ?_ (fun i hi => ?_)
  · rw [um_n _ _ _ k3, hA k (by simpa using k1)]
  · rw [um_n _ _ _ (by decide), e1, pk_us]
  · rw [um_s, hA 100 (by decide)]
  · rw [um_n _ _ _ (by decide), um_n _ _ _ (by decide), hA 22 (by decide), hA 114 (by decide)]
    exact ⟨h.1.2.2.1.2 i hi, hby i hi⟩
theorem P_feed {a b c : Int32} (h : Rel M) : Pr l G mX7_feed mX8_feed [.int a, .int b, .int c] M := by
  obtain ⟨n, hn, en, hby⟩ := h.2.2.2.1
  have e0 : M 21 1 = nI n := h.1.2.2.1.1.trans en
  refine X_feed (n := n) (by decide) hn e0 (fun hb => ⟨_, rfl, M_feed (n := n) (by decide) hn en (fun _ => ⟨rfl, h⟩) (fun q => absurd q hb)⟩) (fun hr M1 hA g1 g2 => ?_)
  refine ⟨_, rfl, M_feed (n := n) (by decide) hn (by rw [hA 100 (by decide)]; exact en) (fun q => absurd hr q) (fun _ M2 hB f1 f2 => ⟨rfl, ?_⟩)⟩
  refine h.tp (n := n + 12) hr (fun k k1 k2 k3 k4 => (hB k (by simp; omega)).trans (hA k (by simp; omega))) ?_ ?_ (fun i hi => ?_)
  · rw [hB 21 (by decide), g1, pk_us]
  · rw [f1, hA 100 (by decide)]
  · rw [hB 22 (by decide), g2, f2, hA 114 (by decide)]
    by_cases q : n ≤ i ∧ i < n + 12
    · simp only [if_pos q]
      exact ⟨trivial, by_is _ _⟩
    · simp only [if_neg q]
      exact ⟨h.1.2.2.1.2 i hi, hby i hi⟩
theorem P_check {v : Int32} (h : Rel M) : Pr l G mX7_check mX8_check [.int v] M := by
  refine X_check (by decide) h (fun M1 hA g1 => ?_)
  have hi : ∀ j, 100 ≤ j → M1 j = M j := fun j hj => hA j (by simp [scX]; omega)
  refine ⟨_, rfl, M_check (by decide) (h.2.hi hi) (fun M2 hB f1 f2 => ⟨by rw [check_hi hi], ?_⟩)⟩
  have al : ∀ k, k ∉ 0 :: scX → k ∉ 100 :: scY → M2 k = M k := fun k k1 k2 => (hB k k2).trans (hA k k1)
  have f0 : M2 100 = upd (M 100) 30 0 := by rw [f1, hi 100 (by decide)]
  have g0 : M2 0 = upd (M 0) 11 0 := by rw [hB 0 (by decide)]; exact g1
  refine h.gen (fun k hk => ?_) (by rw [g0, pk_un (by decide)]) (by rw [f0, pk_un (by decide)])
    (h.1.2.2.1.of (by rw [al 21 (by decide) (by decide)]) (al 22 (by decide) (by decide)) (by rw [f0, pk_un (by decide)]) (al 114 (by decide) (by decide))) (h.1.2.2.2.1.of (fun k hk => al k (by simp [scX]; omega) (by simp [scY]; omega)))
    (h.1.2.2.2.2.1.of (fun k hk => al k (by simp [scX]; omega) (by simp [scY]; omega))) ⟨by rw [g0, f0, pk_us, pk_us], fun i hi2 => ?_⟩
    (h.2.2.2.1.of (by rw [f0, pk_un (by decide)]) (al 114 (by decide) (by decide))) (h.2.2.2.2.1.of (al 104 (by decide) (by decide)) (al 105 (by decide) (by decide))) (h.2.2.2.2.2.1.of (al 107 (by decide) (by decide)) (al 110 (by decide) (by decide))) ⟨0, by decide, by rw [f0, pk_us]; rfl⟩
  · by_cases q : k = 101
    · subst q
      rw [f2, hi 101 (by decide)]
    · exact al k (by simp [scX]; omega) (by simp [scY]; omega)
  · rw [al 63 (by decide) (by decide), al 118 (by decide) (by decide)]
    exact h.1.2.2.2.2.2.2 i hi2
-- a call does not read a cell behind its end
theorem wl_22 {G : GT} {M : Mem} {U : State} {f : Nat → Int32} (hf : ∀ i, i < 96 → f i = M 22 i) (h : Wd G M U) : Wd G (ua M 22 f) U := by
  refine ⟨fun q x hx => ?_, h.2⟩
  unfold wl at hx
  rw [List.getElem?_map] at hx
  cases hk : cks[q]? with
  | none => rw [hk] at hx; cases hx
  | some k =>
    rw [hk] at hx
    cases hx
    have h0 := h.1 q (G.1 k, cel G M k) (by unfold wl; rw [List.getElem?_map, hk]; rfl)
    show va_at G.2.1 clz (G.1 k, cel G (ua M 22 f) k) U.heap
    by_cases e : k = 22
    · subst e
      rw [cel_i G _ (k := 22) (n := 96) (fl := []) (by decide +kernel)] at h0 ⊢
      rw [ua_s]
      refine (show U.heap[G.1 22]? = some (vp_cell (G.2.2.1 0) (96, .inl (M 22))) from h0).trans ?_
      rw [vp_cell_i, vp_cell_i]
      exact congrArg some (arrV_congr _ (fun j hj => by rw [hf j hj]))
    · rw [cel_n G M f e]
      exact h0
theorem Tr.at22 {D : Nat} {y : MT} {av : List Value} {R : Option Value → Mem → Prop} {f : Nat → Int32} (hf : ∀ i, i < 96 → f i = M 22 i) (h : Tr l G D y av (ua M 22 f) R) : Tr l G D y av M R := by
  intro p e h1 h2 h3 s m args below h4 h5 h6 h7
  exact h p e h1 h2 h3 s m args below h4 h5 ⟨h6.1, wl_22 hf h6.2⟩ h7
theorem P_text (h : Rel M) : Pr l G mX7_text mX8_text [] M := by
  refine Tr.at22 (f := M 114) (fun i hi => (h.1.2.2.1.2 i hi).symm) ?_
  have e22 : (ua M 22 (M 114)) 22 = M 114 := ua_s _ _ _
  have hA0 : Ag [22] M (ua M 22 (M 114)) := fun j hj => ua_n _ _ (by simpa using hj)
  generalize ua M 22 (M 114) = N at e22 hA0
  obtain ⟨n0, hn0, en0, hby0⟩ := h.2.2.2.1
  have h : Rel N := by
    refine h.tp (n := n0) hn0 (fun k k1 k2 k3 k4 => hA0 k (by simpa using k2)) ?_ ?_ (fun i hi => ?_)
    · rw [hA0 21 (by decide)]; exact h.1.2.2.1.1.trans en0
    · rw [hA0 100 (by decide), ← en0]
      funext j
      unfold upd
      split
      · next q => rw [q]
      · rfl
    · rw [e22, hA0 114 (by decide)]
      exact ⟨rfl, hby0 i hi⟩
  have e22 : N 22 = N 114 := by rw [e22, hA0 114 (by decide)]
  clear hA0 hby0 en0 hn0
  obtain ⟨n, hn, en, hby⟩ := h.2.2.2.1
  have e1 : N 21 1 = nI n := h.1.2.2.1.1.trans en
  have hT := h.2.1.1.2.2.1
  have hT1 : N 101 1 = nI (nt (N 101)) := hT.1
  have h14 : nt (N 101) ≤ 14 := hT.2.1
  have e18 : N 30 18 = nI (nt (N 101)) := h.1.1.1.1.2.2.2.2.2.2.2.2.2.2.trans hT1
  refine X_text (n := n) (by decide) hn h14 e1 e18 (fun hno M1 hA g => ?_) (fun ok hf M1 hA g => ?_) (fun ok hlt M1 hX => ?_)
  · have c100 := hA 100 (by decide)
    have c101 := hA 101 (by decide)
    have c114 := hA 114 (by decide)
    rw [e22] at hno ⊢
    refine ⟨_, rfl, M_text (n := n) (T := nt (N 101)) (by decide) hn h14 (by rw [c100]; exact en) (by rw [c101]; exact hT1) (fun _ M2 hF => ⟨by rw [c114], h.tf hA g hF ?_⟩) (fun q => absurd (by rw [c114] at q; exact q) hno) (fun q => absurd (by rw [c114] at q; exact q) hno)⟩
    unfold atS
    split <;> omega
  · have c100 := hA 100 (by decide)
    have c101 := hA 101 (by decide)
    have c114 := hA 114 (by decide)
    rw [e22] at ok
    refine ⟨_, rfl, M_text (n := n) (T := nt (N 101)) (by decide) hn h14 (by rw [c100]; exact en) (by rw [c101]; exact hT1) (fun q => absurd ok (by rw [c114] at q; exact q)) (fun _ _ M2 hF => ⟨rfl, h.tf hA g hF ?_⟩) (fun _ q => by omega)⟩
    unfold atS
    split <;> omega
  · have c100 := hX.1 100 (by simp; omega)
    have c101 := hX.1 101 (by simp; omega)
    have c114 := hX.1 114 (by simp; omega)
    rw [e22] at ok hX
    refine ⟨_, rfl, M_text (n := n) (T := nt (N 101)) (by decide) hn h14 (by rw [c100]; exact en) (by rw [c101]; exact hT1) (fun q => absurd ok (by rw [c114] at q; exact q)) (fun _ q => by omega) (fun _ _ M2 hM => ⟨rfl, ?_⟩)⟩
    rw [c114] at hM
    exact h.tx ok hn hlt hX hM
end
