-- the two systems side by side, new
def s0 : Nat → Int32 := upd (upd (upd (fun _ => 0) 9 1) 4 60) 5 10
theorem s0_o {j : Nat} (h9 : j ≠ 9) (h4 : j ≠ 4) (h5 : j ≠ 5) : s0 j = 0 := by unfold s0; rw [pk_un h5, pk_un h4, pk_un h9]
theorem s0_4 : s0 4 = 60 := rfl
theorem s0_5 : s0 5 = 10 := rfl
theorem s0_9 : s0 9 = 1 := rfl
theorem s0_np : np s0 = 0 := by show ix (s0 0) = 0; rw [s0_o (by decide) (by decide) (by decide)]; rfl
theorem s0_nw : nw s0 = 0 := by show ix (s0 3) = 0; rw [s0_o (by decide) (by decide) (by decide)]; rfl
theorem s0_nt : nt s0 = 0 := by show ix (s0 1) = 0; rw [s0_o (by decide) (by decide) (by decide)]; rfl
theorem s0_inv : Inv s0 := by
  refine ⟨⟨by rw [s0_np, s0_o (by decide) (by decide) (by decide)]; rfl, by rw [s0_np]; decide⟩, ⟨by rw [s0_nw, s0_o (by decide) (by decide) (by decide)]; rfl, by rw [s0_nw]; decide⟩, ⟨by rw [s0_nt, s0_o (by decide) (by decide) (by decide)]; rfl, by rw [s0_nt]; decide, fun t ht => ?_⟩, fun k hk => ?_, fun w hw => ?_⟩
  · rw [s0_nt] at ht; omega
  · rw [s0_np] at hk; omega
  · rw [s0_nw] at hw; omega
theorem s0_il : IL s0 := ⟨s0_inv, 0, 0, s0_o (by decide) (by decide) (by decide), s0_o (by decide) (by decide) (by decide), by decide, by decide⟩
theorem m0_ld : LR (mT 240) 30 s0 := by
  have z : ∀ j, 1 ≤ j → j ≤ 7 → ∀ i, mT 240 (30 + j) i = 0 := fun j h1 h2 i => by rw [m0_o (by omega) (by simp; omega)]
  have w : ∀ i, i ≠ 11 → i ≠ 12 → i ≠ 17 → mT 240 30 i = 0 := fun i a b c => by rw [m0_30, pk_un c, pk_un b, pk_un a]
  have s : ∀ j, j ≠ 9 → j ≠ 4 → j ≠ 5 → s0 j = 0 := fun j a b c => s0_o a b c
  refine ⟨⟨?_, ?_, ?_, ?_, ?_, ?_, ?_, ?_, ?_, ?_, ?_⟩, fun k _ => ?_, fun k _ => ?_, fun k _ => ?_, fun k _ => ?_, fun k _ => ?_, fun k _ => ?_, fun p _ => ?_, fun q hq => ?_⟩
  · rw [w 1 (by decide) (by decide) (by decide), s 0 (by decide) (by decide) (by decide)]
  · rw [w 6 (by decide) (by decide) (by decide), s 3 (by decide) (by decide) (by decide)]
  · rw [w 10 (by decide) (by decide) (by decide)]
    unfold stS
    rw [s0_nw]
    rfl
  · rw [m0_30, s0_4]; rfl
  · rw [m0_30, s0_5]; rfl
  · rw [w 13 (by decide) (by decide) (by decide), s 6 (by decide) (by decide) (by decide)]
  · rw [w 14 (by decide) (by decide) (by decide), s 7 (by decide) (by decide) (by decide)]
  · rw [w 15 (by decide) (by decide) (by decide), s 8 (by decide) (by decide) (by decide)]
  · rw [w 16 (by decide) (by decide) (by decide), s 2 (by decide) (by decide) (by decide)]
  · rw [m0_30, s0_9]; rfl
  · rw [w 18 (by decide) (by decide) (by decide), s 1 (by decide) (by decide) (by decide)]
  · rw [z 1 (by decide) (by decide)]; exact (s _ (by omega) (by omega) (by omega)).symm
  · rw [z 2 (by decide) (by decide)]; exact (s _ (by omega) (by omega) (by omega)).symm
  · rw [z 3 (by decide) (by decide)]; exact (s _ (by omega) (by omega) (by omega)).symm
  · rw [z 4 (by decide) (by decide)]; exact (s _ (by omega) (by omega) (by omega)).symm
  · rw [z 5 (by decide) (by decide)]; exact (s _ (by omega) (by omega) (by omega)).symm
  · rw [z 6 (by decide) (by decide)]; exact (s _ (by omega) (by omega) (by omega)).symm
  · rw [z 7 (by decide) (by decide)]
    unfold eIn
    rw [s0_nw]
    rfl
  · show mT 240 38 q = onS (cnS s0 (nI q) (nt s0))
    rw [s0_nt, m0_38]
    rcases (show q = 0 ∨ q = 1 ∨ q = 2 by omega) with rfl | rfl | rfl <;> rfl
theorem rel0 : Rel (mT 240) := by
  have z : ∀ {k : Nat}, k < 120 → k ∉ [30, 38, 40, 48, 50, 58, 70, 72, 74, 76, 80, 81, 83, 84, 86, 87, 89, 90, 92, 93, 101, 104] → ∀ i, mT 240 k i = 0 := fun h1 h2 i => by rw [m0_o h1 h2]
  have e101 : mT 240 101 = s0 := m0_101
  have e4 : ∀ j, j < 4 → mT 240 104 j = -1 := by
    intro j hj
    rw [m0_104]
    rcases (show j = 0 ∨ j = 1 ∨ j = 2 ∨ j = 3 by omega) with rfl | rfl | rfl | rfl <;> rfl
  have e7 : ∀ j, j < 5 → mT 240 107 j = 0 := fun j _ => z (by decide) (by decide) j
  refine ⟨⟨⟨by rw [e101]; exact m0_ld, fun t ht => ?_⟩, ⟨?_, fun h => ?_⟩, ⟨?_, fun i _ => ?_⟩, fun j hj => ⟨?_, ?_, fun i hi => ?_⟩, fun j hj => ⟨?_, fun h => ?_, fun h => ?_, fun h => ?_⟩, ⟨?_, fun i _ => ?_⟩⟩, ⟨by rw [e101]; exact s0_il, Or.inl (z (by decide) (by decide) 3), ⟨0, by decide, ?_, fun i _ => ⟨0, by decide, ?_⟩⟩, fun j hj => ⟨Or.inl (e4 j hj), 0, by decide, ?_⟩, fun j hj => ⟨Or.inl (e7 j hj), 0, by decide, ?_⟩, ⟨0, by decide, ?_⟩⟩⟩
  · rw [e101, s0_nt] at ht; omega
  · rw [z (k := 0) (by decide) (by decide), z (k := 100) (by decide) (by decide)]
  · rw [z (k := 100) (by decide) (by decide)] at h
    exact absurd h (by decide)
  · rw [z (k := 21) (by decide) (by decide), z (k := 100) (by decide) (by decide)]
  · rw [z (k := 22) (by decide) (by decide), z (k := 114) (by decide) (by decide)]
  · rw [m0_sh hj, e4 j hj]; rfl
  · rw [m0_sh hj, z (k := 105) (by decide) (by decide)]; rfl
  · rw [z (k := 70 + 2 * j + 1) (by omega) (by simp; omega), z (k := 106) (by decide) (by decide)]
  · rw [m0_sl hj, e7 j hj]; rfl
  · rw [e7 j hj] at h; exact absurd h (by decide)
  · rw [e7 j hj] at h; exact absurd h (by decide)
  · rw [e7 j hj] at h; exact absurd h (by decide)
  · rw [z (k := 0) (by decide) (by decide), z (k := 100) (by decide) (by decide)]
  · rw [z (k := 63) (by decide) (by decide), z (k := 118) (by decide) (by decide)]
  · rw [z (k := 100) (by decide) (by decide)]; rfl
  · rw [z (k := 114) (by decide) (by decide)]; rfl
  · rw [z (k := 105) (by decide) (by decide)]; rfl
  · rw [z (k := 110) (by decide) (by decide)]; rfl
  · rw [z (k := 100) (by decide) (by decide)]; rfl
