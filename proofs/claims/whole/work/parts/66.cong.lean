-- rows that agree below the texts' end
theorem cn_cong {s s' : Nat → Int32} {q : Int32} (h : ∀ j, j < 2884 → s' j = s j) : ∀ n, n ≤ 14 → cnS s' q n = cnS s q n
  | 0, _ => rfl
  | n + 1, hn => by
    simp only [cnS]
    rw [h (84 + 200 * n) (by omega), cn_cong h n (by omega)]
theorem nt_cong {s s' : Nat → Int32} (h : ∀ j, j < 2884 → s' j = s j) : nt s' = nt s := by show ix (s' 1) = ix (s 1); rw [h 1 (by decide)]
theorem np_cong {s s' : Nat → Int32} (h : ∀ j, j < 2884 → s' j = s j) : np s' = np s := by show ix (s' 0) = ix (s 0); rw [h 0 (by decide)]
theorem nw_cong {s s' : Nat → Int32} (h : ∀ j, j < 2884 → s' j = s j) : nw s' = nw s := by show ix (s' 3) = ix (s 3); rw [h 3 (by decide)]
theorem inv_cong {s s' : Nat → Int32} (h : ∀ j, j < 2884 → s' j = s j) (hI : Inv s) : Inv s' := by
  have e0 := np_cong h
  have e1 := nt_cong h
  have e3 := nw_cong h
  have h8 := hI.1.2
  have h14 := hI.2.1.2
  have hT := hI.2.2.1
  have ht := hT.2.1
  refine ⟨⟨by rw [e0, h 0 (by decide)]; exact hI.1.1, by rw [e0]; exact h8⟩, ⟨by rw [e3, h 3 (by decide)]; exact hI.2.1.1, by rw [e3]; exact h14⟩, ⟨by rw [e1, h 1 (by decide)]; exact hT.1, by rw [e1]; exact ht, fun t htt => ?_⟩, fun k hk => ?_, fun w hw => ?_⟩
  · rw [e1] at htt
    exact wfT_cong (fun j _ hj => h j (by omega)) (hT.2.2 t htt)
  · rw [e0] at hk
    rw [e3]
    have c0 : kd s' k = kd s k := h _ (by omega)
    have c1 : pl s' k = pl s k := h _ (by omega)
    have c2 : ag s' k = ag s k := h _ (by omega)
    have c3 : sk s' k = sk s k := h _ (by omega)
    rw [c0, c1, c2, c3]
    exact hI.2.2.2.1 k hk
  · rw [e3] at hw
    have c0 : fr s' w = fr s w := h _ (by omega)
    have c1 : tt s' w = tt s w := h _ (by omega)
    have c2 : sd s' w = sd s w := h _ (by omega)
    rw [c0, c1, c2]
    exact hI.2.2.2.2 w hw
theorem il_cong {s s' : Nat → Int32} (h : ∀ j, j < 2884 → s' j = s j) (hI : IL s) : IL s' := by
  obtain ⟨h1, w, d, h2, h3, h4⟩ := hI
  exact ⟨inv_cong h h1, w, d, by rw [h 6 (by decide)]; exact h2, by rw [h 2 (by decide)]; exact h3, h4⟩
theorem LR.cong {M : Mem} {b : Nat} {s s' : Nat → Int32} (hI : Inv s) (h : ∀ j, j < 2884 → s' j = s j) (hL : LR M b s) : LR M b s' := by
  have e0 := np_cong h
  have e1 := nt_cong h
  have e3 := nw_cong h
  have h14 := hI.2.1.2
  have ht := hI.2.2.1.2.1
  obtain ⟨⟨a1, a2, a3, a4, a5, a6, a7, a8, a9, a10, a11⟩, g1, g2, g3, g4, g5, g6, g7, g8⟩ := hL
  refine ⟨⟨by rw [h 0 (by decide)]; exact a1, by rw [h 3 (by decide)]; exact a2, ?_, by rw [h 4 (by decide)]; exact a4, by rw [h 5 (by decide)]; exact a5, by rw [h 6 (by decide)]; exact a6, by rw [h 7 (by decide)]; exact a7, by rw [h 8 (by decide)]; exact a8, by rw [h 2 (by decide)]; exact a9, by rw [h 9 (by decide)]; exact a10, by rw [h 1 (by decide)]; exact a11⟩, fun k hk => (g1 k hk).trans (h _ (by omega)).symm, fun k hk => (g2 k hk).trans (h _ (by omega)).symm, fun k hk => (g3 k hk).trans (h _ (by omega)).symm, fun k hk => (g4 k hk).trans (h _ (by omega)).symm, fun w hw => (g5 w hw).trans (h _ (by omega)).symm, fun w hw => (g6 w hw).trans (h _ (by omega)).symm, fun p hp => ?_, fun q hq => ?_⟩
  · rw [a3]
    unfold stS
    rw [e3]
    exact bs_cong _ (fun w hw => by rw [show sd s' w = sd s w from h _ (by omega)])
  · rw [g7 p hp]
    unfold eIn
    rw [e3]
    refine bs_cong _ (fun w hw => ?_)
    unfold tch
    rw [show fr s' w = fr s w from h _ (by omega), show tt s' w = tt s w from h _ (by omega)]
  · rw [g8 q hq]
    show onS (cnS s (nI q) (nt s)) = onS (cnS s' (nI q) (nt s'))
    rw [e1, cn_cong h _ ht]
/-- keep: the two sides after it -/
theorem Rel.keep {M M1 M2 : Mem} (h : Rel M) (h1 : Ag (0 :: ldC 50) M M1) (h0 : M1 0 = upd (M 0) 5 1) (hL : LR M1 50 (M 101)) (h2 : Ag [100, 102] M1 M2) (e100 : M2 100 = upd (M1 100) 3 1) (e102 : M2 102 = (fun j => if j < 2884 then M1 101 j else M1 102 j)) : Rel M2 := by
  obtain ⟨⟨⟨r1, r2⟩, ⟨r3, r4⟩, ⟨r5, r6⟩, r7, r8, ⟨r9, r10⟩⟩, ⟨i1, i2, i3, i4, i5, i6⟩⟩ := h
  have a : ∀ k, k ∉ 0 :: ldC 50 → k ∉ [100, 102] → M2 k = M k := fun k hk hk2 => (h2 k hk2).trans (h1 k hk)
  have hT := i1.1.2.2.1
  have h14 := hT.2.1
  have m101 : M2 101 = M 101 := a 101 (by decide) (by decide)
  have m1 : M1 101 = M 101 := h1 101 (by decide)
  have m1c : M1 100 = M 100 := h1 100 (by decide)
  have ca : ∀ j, j < 2884 → M2 102 j = M 101 j := fun j hj => by have e := congrFun e102 j; simp only [if_pos hj, m1] at e; exact e
  have z0 : M2 0 = upd (M 0) 5 1 := (h2 0 (by decide)).trans h0
  have z100 : M2 100 = upd (M 100) 3 1 := by rw [e100, m1c]
  refine ⟨⟨⟨?_, ?_⟩, ⟨?_, ?_⟩, ⟨?_, ?_⟩, ?_, ?_, ⟨?_, ?_⟩⟩, ⟨?_, ?_, ?_, ?_, ?_, ?_⟩⟩
  · rw [m101]
    exact r1.of (fun j hj => a _ (by simp [ldC]; omega) (by simp; omega))
  · intro t htt
    rw [m101] at htt ⊢
    have hw := r2 t htt
    unfold LW at hw ⊢
    rw [a 3 (by decide) (by decide), a 4 (by decide) (by decide), a 5 (by decide) (by decide), a (7 + t) (by simp [ldC]; omega) (by simp; omega)]
    exact hw
  · rw [z0, z100, pk_us, pk_us]
  · intro _
    refine LR.cong i1.1 ca (hL.of (fun j hj => h2 _ (by simp; omega)))
  · rw [a 21 (by decide) (by decide), z100, pk_un (by decide)]; exact r5
  · rw [a 22 (by decide) (by decide), a 114 (by decide) (by decide)]; exact r6
  · intro j hj
    rw [a (70 + 2 * j) (by simp [ldC]; omega) (by simp; omega), a (70 + 2 * j + 1) (by simp [ldC]; omega) (by simp; omega), a 104 (by decide) (by decide), a 105 (by decide) (by decide), a 106 (by decide) (by decide)]
    exact r7 j hj
  · intro j hj
    rw [a (80 + 3 * j) (by simp [ldC]; omega) (by simp; omega), a (80 + 3 * j + 1) (by simp [ldC]; omega) (by simp; omega), a (80 + 3 * j + 1 + 1) (by simp [ldC]; omega) (by simp; omega), a 107 (by decide) (by decide), a 108 (by decide) (by decide), a 109 (by decide) (by decide), a 110 (by decide) (by decide), a 111 (by decide) (by decide)]
    exact r8 j hj
  · rw [z0, z100, pk_un (by decide), pk_un (by decide)]; exact r9
  · rw [a 63 (by decide) (by decide), a 118 (by decide) (by decide)]; exact r10
  · rw [m101]; exact i1
  · refine Or.inr ⟨by rw [z100, pk_us], il_cong ca i1, ?_, fun j hj hj2 => ?_⟩
    · rw [nt_cong ca, m101]
      exact Nat.le_refl _
    · rw [nt_cong ca] at hj2
      rw [ca j (by omega), m101]
  · unfold IT
    rw [z100, pk_un (by decide), a 114 (by decide) (by decide)]; exact i3
  · unfold ISh
    rw [a 104 (by decide) (by decide), a 105 (by decide) (by decide)]; exact i4
  · unfold ISl
    rw [a 107 (by decide) (by decide), a 110 (by decide) (by decide)]; exact i5
  · unfold IWt
    rw [z100, pk_un (by decide)]; exact i6
