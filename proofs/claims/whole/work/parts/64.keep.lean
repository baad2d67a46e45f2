-- keep, back: the land laid by
theorem shp_101 : shp 101 = (1, 3084, []) := by decide
theorem shp_102 : shp 102 = (1, 3084, []) := by decide
theorem shp_103 : shp 103 = (1, 3084, []) := by decide
section
variable {l : Launch} {G : GT} {D : Nat} {M : Mem} {R : Option Value → Mem → Prop} {b : Nat} {s : Nat → Int32}
theorem sX8_setAside {a c : Nat} (hs1 : shp a = (1, 3084, [])) (hk1 : inK a = true) (hs2 : shp c = (1, 3084, [])) (hk2 : inK c = true) (hne : a ≠ c) (hD : 4 ≤ D) (hR : ∀ M', Ag [c] M M' → M' c = (fun j => if j < 2884 then M a j else M c j) → R none M') : Tr l G D mX8_setAside [.ref (G.1 100), .ref (G.1 a), .ref (G.1 c)] M R := by
  obtain ⟨d, rfl⟩ := dE hD
  refine tX8_setAside hs1 hk1 hs2 hk2 ?_
  have loop : ∀ i, i ≤ 2884 → ∀ M', Ag [c] M M' → M' c = (fun j => if j < i then M a j else M c j) → At l G (d + 4) mX8_setAside 2 [none, some (.ref (G.1 a)), some (.ref (G.1 c)), some (.int (nI i))] [] M' R := by
    refine upL (fun i => ∀ M', Ag [c] M M' → M' c = (fun j => if j < i then M a j else M c j) → At l G (d + 4) mX8_setAside 2 [none, some (.ref (G.1 a)), some (.ref (G.1 c)), some (.int (nI i))] [] M' R) 2884 ?_ ?_
    · intro M' hA he
      exact bX8_setAside_2 hs1 hk1 hs2 hk2 ⟨fun _ => hR M' hA he, fun h => absurd (by rw [show (2884 : Int32) = nI 2884 from rfl, le_nI (by omega) (by omega)]; exact Nat.le_refl _) h⟩
    · intro i hi ih M' hA he
      refine bX8_setAside_2 hs1 hk1 hs2 hk2 ⟨fun h => absurd h (by rw [show (2884 : Int32) = nI 2884 from rfl, le_nI (by omega) (by omega)]; omega), fun _ => ⟨vpn (by omega) (by decide), vpn (by omega) (by decide), ?_⟩⟩
      rw [p1, ix_nI (by omega)]
      refine ih _ (hA.ua (by simp) _) ?_
      rw [um_s, he, hA a (by simpa using hne)]
      funext j
      by_cases e : j = i
      · rw [e, pk_us, if_pos (by omega)]
      · rw [pk_un e]
        by_cases q : j < i
        · rw [if_pos q, if_pos (by omega)]
        · rw [if_neg q, if_neg (by omega)]
  exact loop 0 (by omega) M (Ag.rf _ _) (by funext j; rw [if_neg (Nat.not_lt_zero j)])
theorem X_keep (hD : 8 ≤ D) (hRel : Rel M) (hR : ∀ M', Ag (0 :: ldC 50) M M' → M' 0 = upd (M 0) 5 1 → LR M' 50 (M 101) → R (some (.int (M 101 0))) M') : Tr l G D mX7_keep [.ref (G.1 0)] M R := by
  obtain ⟨d, rfl⟩ := dE (show 4 ≤ D by omega)
  refine tX7_keep (sX1_take (Or.inr (Or.inr rfl)) ld30 (by decide) (by omega) hRel.1.1.1 (fun M1 hA1 hL1 => kV_i (bX7_keep_11 ?_)))
  have e0 : M1 0 = M 0 := hA1 0 (by decide)
  have e1 : (um M1 0 5 1) 30 1 = M 101 0 := by
    rw [um_n _ _ _ (by decide), hA1 30 (by decide)]
    exact hRel.1.1.1.1.1
  rw [e1]
  refine hR _ ((hA1.sub (fun k hk => List.mem_cons_of_mem _ hk)).ua (by decide) _) (by rw [um_s, e0]) (hL1.of (fun j hj => um_n _ _ _ (by omega)))
theorem M_keep (hD : 8 ≤ D) (hR : ∀ M', Ag [100, 102] M M' → M' 100 = upd (M 100) 3 1 → M' 102 = (fun j => if j < 2884 then M 101 j else M 102 j) → R (some (.int (M 101 0))) M') : Tr l G D mX8_keep [.ref (G.1 100)] M R := by
  obtain ⟨d, rfl⟩ := dE (show 4 ≤ D by omega)
  refine tX8_keep (sX8_setAside shp_101 (by decide) shp_102 (by decide) (by decide) (by omega) (fun M1 hA1 h1 => kV_i (bX8_keep_17 ?_)))
  have e : M1 101 = M 101 := by rw [hA1 101 (by decide), um_n _ _ _ (by decide)]
  rw [e]
  refine hR M1 (((Ag.rf _ M).ua (by decide) _).tr (hA1.sub (by decide))) (by rw [hA1 100 (by decide), um_s]) ?_
  rw [h1, um_n _ _ _ (by decide), um_n _ _ _ (by decide)]
theorem X_back (hD : 8 ≤ D) (hRel : Rel M) (h0 : M 100 3 = 0 → R (some (.int (-1000000002))) M) (hR : ¬ M 100 3 = 0 → ∀ M', Ag (ldC 30) M M' → LR M' 30 (M 102) → R (some (.int (M 102 0))) M') : Tr l G D mX7_back [.ref (G.1 0)] M R := by
  obtain ⟨d, rfl⟩ := dE (show 4 ≤ D by omega)
  have e := hRel.1.2.1.1
  have h1 : ¬ M 100 3 = 0 → M 100 3 = 1 := fun h => by
    rcases hRel.2.2.1 with q | q
    · exact absurd q h
    · exact q.1
  refine tX7_back ?_
  rw [e]
  refine ⟨h0, fun h => sX1_take ld30 (Or.inr (Or.inr rfl)) (by decide) (by omega) (hRel.1.2.1.2 (h1 h)) (fun M1 hA1 hL1 => kV_i (bX7_back_21 ?_))⟩
  rw [show M1 30 1 = M 102 0 from hL1.1.1]
  exact hR h M1 hA1 hL1
theorem M_back (hD : 8 ≤ D) (h0 : M 100 3 = 0 → R (some (.int (-1000000002))) M) (hR : ¬ M 100 3 = 0 → ∀ M', Ag [101] M M' → M' 101 = (fun j => if j < 2884 then M 102 j else M 101 j) → R (some (.int (M 102 0))) M') : Tr l G D mX8_back [.ref (G.1 100)] M R := by
  obtain ⟨d, rfl⟩ := dE (show 4 ≤ D by omega)
  refine tX8_back ⟨h0, fun h => sX8_setAside shp_102 (by decide) shp_101 (by decide) (by decide) (by omega) (fun M1 hA1 h1 => kV_i (bX8_back_22 ?_))⟩
  have e : M1 101 0 = M 102 0 := by rw [h1]; rfl
  rw [e]
  exact hR h M1 hA1 h1
end
