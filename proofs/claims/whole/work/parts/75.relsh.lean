-- a step that touches one sheet
theorem Rel.sh {M M1 M2 : Mem} {k : Nat} (hk : k < 4) (h : Rel M) (h1 : Ag [70 + 2 * k, 70 + 2 * k + 1] M M1) (h2 : Ag [104, 105, 106] M1 M2) (hs : RXs M2) (hi : ISh M2) : Rel M2 := by
  obtain ⟨⟨⟨r1, r2⟩, ⟨r3, r4⟩, ⟨r5, r6⟩, r7, r8, ⟨r9, r10⟩⟩, ⟨i1, i2, i3, i4, i5, i6⟩⟩ := h
  have a : ∀ j, j ∉ [70 + 2 * k, 70 + 2 * k + 1] → j ∉ [104, 105, 106] → M2 j = M j := fun j hj hj2 => (h2 j hj2).trans (h1 j hj)
  have lo : ∀ j, j < 70 → M2 j = M j := fun j hj => a j (by simp; omega) (by simp; omega)
  have mi : ∀ j, 78 ≤ j → j < 104 → M2 j = M j := fun j hj hj2 => a j (by simp; omega) (by simp; omega)
  have hi' : ∀ j, 106 < j → M2 j = M j := fun j hj => a j (by simp; omega) (by simp; omega)
  have h14 := i1.1.2.2.1.2.1
  have m101 := mi 101 (by decide) (by decide)
  have m100 := mi 100 (by decide) (by decide)
  have m102 := mi 102 (by decide) (by decide)
  refine ⟨⟨⟨?_, ?_⟩, ⟨?_, ?_⟩, ⟨?_, ?_⟩, hs, ?_, ⟨?_, ?_⟩⟩, ⟨?_, ?_, ?_, hi, ?_, ?_⟩⟩
  · rw [m101]
    exact r1.of (fun j hj => lo _ (by omega))
  · intro t htt
    rw [m101] at htt ⊢
    have hw := r2 t htt
    unfold LW at hw ⊢
    rw [lo 3 (by decide), lo 4 (by decide), lo 5 (by decide), lo (7 + t) (by omega)]
    exact hw
  · rw [lo 0 (by decide), m100]; exact r3
  · rw [m100, m102]
    intro h100
    exact (r4 h100).of (fun j hj => lo _ (by omega))
  · rw [lo 21 (by decide), m100]; exact r5
  · rw [lo 22 (by decide), hi' 114 (by decide)]; exact r6
  · intro j hj
    rw [mi (80 + 3 * j) (by omega) (by omega), mi (80 + 3 * j + 1) (by omega) (by omega), mi (80 + 3 * j + 1 + 1) (by omega) (by omega), hi' 107 (by decide), hi' 108 (by decide), hi' 109 (by decide), hi' 110 (by decide), hi' 111 (by decide)]
    exact r8 j hj
  · rw [lo 0 (by decide), m100]; exact r9
  · rw [lo 63 (by decide), hi' 118 (by decide)]; exact r10
  · rw [m101]; exact i1
  · unfold II
    rw [m100, m101, m102]; exact i2
  · unfold IT
    rw [m100, hi' 114 (by decide)]; exact i3
  · unfold ISl
    rw [hi' 107 (by decide), hi' 110 (by decide)]; exact i5
  · unfold IWt
    rw [m100]; exact i6
