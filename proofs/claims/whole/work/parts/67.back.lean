-- back: the two sides after it
theorem Rel.back {M M1 M2 : Mem} (h : Rel M) (h3 : M 100 3 = 1) (h1 : Ag (ldC 30) M M1) (hL : LR M1 30 (M 102)) (h2 : Ag [101] M1 M2) (e101 : M2 101 = (fun j => if j < 2884 then M1 102 j else M1 101 j)) : Rel M2 := by
  obtain ⟨⟨⟨r1, r2⟩, ⟨r3, r4⟩, ⟨r5, r6⟩, r7, r8, ⟨r9, r10⟩⟩, ⟨i1, i2, i3, i4, i5, i6⟩⟩ := h
  have a : ∀ k, k ∉ ldC 30 → k ∉ [101] → M2 k = M k := fun k hk hk2 => (h2 k hk2).trans (h1 k hk)
  have i2' : IL (M 102) ∧ nt (M 102) ≤ nt (M 101) ∧ ∀ j, 84 ≤ j → j < 84 + 200 * nt (M 102) → M 102 j = M 101 j := by
    rcases i2 with q | ⟨-, q⟩
    · rw [h3] at q; exact absurd q (by decide)
    · exact q
  obtain ⟨il, q1, q2⟩ := i2'
  have m1 : M1 102 = M 102 := h1 102 (by decide)
  have ca : ∀ j, j < 2884 → M2 101 j = M 102 j := fun j hj => by have e := congrFun e101 j; simp only [if_pos hj, m1] at e; exact e
  have ent := nt_cong ca
  have hT := i1.1.2.2.1
  have h14 := hT.2.1
  refine ⟨⟨⟨?_, ?_⟩, ⟨?_, ?_⟩, ⟨?_, ?_⟩, ?_, ?_, ⟨?_, ?_⟩⟩, ⟨?_, ?_, ?_, ?_, ?_, ?_⟩⟩
  · exact LR.cong il.1 ca (hL.of (fun j hj => h2 _ (by simp; omega)))
  · intro t htt
    rw [ent] at htt
    have hw := LW_cong (s' := M2 101) (fun j hj hj2 => by rw [ca j (by omega), q2 j (by omega) (by omega)]) ((hT.2.2 t (by omega)).2.2.1) (r2 t (by omega))
    unfold LW at hw ⊢
    rw [a 3 (by decide) (by decide), a 4 (by decide) (by decide), a 5 (by decide) (by decide), a (7 + t) (by simp [ldC]; omega) (by simp; omega)]
    exact hw
  · rw [a 0 (by decide) (by decide), a 100 (by decide) (by decide)]; exact r3
  · rw [a 100 (by decide) (by decide), a 102 (by decide) (by decide)]
    intro h100
    exact (r4 h100).of (fun j hj => a _ (by simp [ldC]; omega) (by simp; omega))
  · rw [a 21 (by decide) (by decide), a 100 (by decide) (by decide)]; exact r5
  · rw [a 22 (by decide) (by decide), a 114 (by decide) (by decide)]; exact r6
  · intro j hj
    rw [a (70 + 2 * j) (by simp [ldC]; omega) (by simp; omega), a (70 + 2 * j + 1) (by simp [ldC]; omega) (by simp; omega), a 104 (by decide) (by decide), a 105 (by decide) (by decide), a 106 (by decide) (by decide)]
    exact r7 j hj
  · intro j hj
    rw [a (80 + 3 * j) (by simp [ldC]; omega) (by simp; omega), a (80 + 3 * j + 1) (by simp [ldC]; omega) (by simp; omega), a (80 + 3 * j + 1 + 1) (by simp [ldC]; omega) (by simp; omega), a 107 (by decide) (by decide), a 108 (by decide) (by decide), a 109 (by decide) (by decide), a 110 (by decide) (by decide), a 111 (by decide) (by decide)]
    exact r8 j hj
  · rw [a 0 (by decide) (by decide), a 100 (by decide) (by decide)]; exact r9
  · rw [a 63 (by decide) (by decide), a 118 (by decide) (by decide)]; exact r10
  · exact il_cong ca il
  · unfold II
    rw [a 100 (by decide) (by decide), a 102 (by decide) (by decide)]
    exact Or.inr ⟨h3, il, by rw [ent]; exact Nat.le_refl _, fun j hj hj2 => by
      have := il.1.2.2.1.2.1
      rw [ca j (by omega)]⟩
  · unfold IT
    rw [a 100 (by decide) (by decide), a 114 (by decide) (by decide)]; exact i3
  · unfold ISh
    rw [a 104 (by decide) (by decide), a 105 (by decide) (by decide)]; exact i4
  · unfold ISl
    rw [a 107 (by decide) (by decide), a 110 (by decide) (by decide)]; exact i5
  · unfold IWt
    rw [a 100 (by decide) (by decide)]; exact i6
