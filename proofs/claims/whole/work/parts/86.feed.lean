-- feed
def byS (x : Int32) (n : Nat) : Int32 := (x >>> (nI n &&& 31)) &&& 255
theorem by_u (x : Int32) {n : Nat} (hn : n ≤ 24) : ((x.toUInt32 >>> ((nI n).toUInt32 &&& Int32.toUInt32 31)).toInt32) &&& 255 = byS x n := by
  unfold byS
  apply b_ext
  intro i hi
  rw [b_and, b_and, b_255, b_ushr n (by omega), b_sshr n (by omega) x hi]
  by_cases h : i < 8
  · rw [if_pos (by omega)]
  · rw [show decide (i < 8) = false from decide_eq_false h, Bool.and_false, Bool.and_false]
theorem by_is (x : Int32) (n : Nat) : ∃ a, a < 256 ∧ byS x n = nI a := by
  obtain ⟨j, hj, e⟩ := pk_andE (x >>> (nI n &&& 31)) (m := 255) 8 (by decide)
  exact ⟨j, by omega, e⟩
def fbS (a b c : Int32) (i : Nat) : Int32 := byS (if i < 4 then a else if i < 8 then b else c) (24 - 8 * (i % 4))
section
variable {l : Launch} {G : GT} {D : Nat} {M : Mem} {R : Option Value → Mem → Prop} {b : Nat} {s : Nat → Int32}
theorem add_st {d : Nat} {v : Int32} {h n : Nat} (hh : h ≤ 24) (hn : n < 96) (e : M 21 1 = nI n) (hk : At l G (d + 4) mX5_add 3 [some (.ref (G.1 21)), some (.int v), some (.int (nI h + (-8)))] [] (um (um M 22 n (byS v h)) 21 1 (nI (n + 1))) R) : At l G (d + 4) mX5_add 3 [some (.ref (G.1 21)), some (.int v), some (.int (nI h))] [] M R := by
  refine bX5_add_3 ⟨fun q => absurd q (Int32.not_lt.mpr (zl _ (by omega))), fun _ => ?_⟩
  rw [e]
  refine ⟨fun q => absurd q ?_, fun _ => ⟨vpn hn (by decide), fun M4 e4 => ?_⟩⟩
  · rw [show (96 : Int32) = nI 96 from rfl, le_nI (by omega) (by omega)]; omega
  · rw [by_u v hh, ix_nI (by omega)] at e4
    have e5 : M4 21 1 = nI n := by rw [e4, um_n _ _ _ (by decide)]; exact e
    rw [e5, p1, e4]
    exact hk
theorem sX5_add {v : Int32} {n : Nat} (hD : 4 ≤ D) (hn : n + 4 ≤ 96) (e : M 21 1 = nI n) (hR : ∀ M', Ag [21, 22] M M' → M' 21 = upd (M 21) 1 (nI (n + 4)) → M' 22 = (fun j => if n ≤ j ∧ j < n + 4 then byS v (24 - 8 * (j - n)) else M 22 j) → R none M') : Tr l G D mX5_add [.ref (G.1 21), .int v] M R := by
  obtain ⟨d, rfl⟩ := dE hD
  refine tX5_add (add_st (h := 24) (by decide) (by omega) e ?_)
  refine add_st (h := 16) (n := n + 1) (by decide) (by omega) (by rw [um_s, pk_us]) ?_
  refine add_st (h := 8) (n := n + 2) (by decide) (by omega) (by rw [um_s, pk_us]) ?_
  refine add_st (h := 0) (n := n + 3) (by decide) (by omega) (by rw [um_s, pk_us]) ?_
  refine bX5_add_3 ⟨fun _ => hR _ ?_ ?_ ?_, fun h => absurd (by decide : (nI 0 + (-8) : Int32) < 0) h⟩
  · exact ((((((((Ag.rf _ M).ua (by decide) _).ua (by decide) _).ua (by decide) _).ua (by decide) _).ua (by decide) _).ua (by decide) _).ua (by decide) _).ua (by decide) _
  · funext j
    simp (disch := decide) only [um_s, um_n]
    by_cases q : j = 1
    · rw [q, pk_us, pk_us]
    · simp (disch := exact q) only [pk_un]
  · funext j
    simp (disch := decide) only [um_s, um_n]
    by_cases q : n ≤ j ∧ j < n + 4
    · rw [if_pos q]
      by_cases q3 : j = n + 3
      · rw [q3, pk_us, show n + 3 - n = 3 by omega]
      · rw [pk_un q3]
        by_cases q2 : j = n + 2
        · rw [q2, pk_us, show n + 2 - n = 2 by omega]
        · rw [pk_un q2]
          by_cases q1 : j = n + 1
          · rw [q1, pk_us, show n + 1 - n = 1 by omega]
          · rw [pk_un q1, show j = n by omega, pk_us, show n - n = 0 by omega]
    · rw [if_neg q, pk_un (by omega), pk_un (by omega), pk_un (by omega), pk_un (by omega)]
theorem X_feed {a b c : Int32} {n : Nat} (hD : 8 ≤ D) (hn : n ≤ 96) (e : M 21 1 = nI n) (hfull : ¬ n + 12 ≤ 96 → R (some (.int (-1000000003))) M) (hR : n + 12 ≤ 96 → ∀ M', Ag [21, 22] M M' → M' 21 = upd (M 21) 1 (nI (n + 12)) → M' 22 = (fun j => if n ≤ j ∧ j < n + 12 then fbS a b c (j - n) else M 22 j) → R (some (.int (nI (n + 12)))) M') : Tr l G D mX7_feed [.ref (G.1 0), .int a, .int b, .int c] M R := by
  obtain ⟨d, rfl⟩ := dE (show 4 ≤ D by omega)
  have k : nI n + 12 = nI (n + 12) := by rw [show (12 : Int32) = nI 12 from rfl, nI_add]
  have k2 : nI (n + 12) ≤ 96 ↔ n + 12 ≤ 96 := le_nI (b := 96) (by omega) (by decide)
  refine tX7_feed ?_
  rw [e, k, k2]
  refine ⟨fun h => ?_, hfull⟩
  refine sX5_add (by omega) (n := n) (by omega) e (fun M1 hA1 f1 g1 => kV_i (bX7_feed_26 ?_))
  refine sX5_add (by omega) (n := n + 4) (by omega) (by rw [f1, pk_us]) (fun M2 hA2 f2 g2 => kV_i (bX7_feed_34 ?_))
  refine sX5_add (by omega) (n := n + 8) (by omega) (by rw [f2, pk_us]) (fun M3 hA3 f3 g3 => kV_i (bX7_feed_42 ?_))
  have z : M3 21 1 = nI (n + 12) := by rw [f3, pk_us]
  rw [z]
  refine hR h M3 ((hA1.tr hA2).tr hA3) ?_ ?_
  · rw [f3, f2, f1]
    funext j
    by_cases q : j = 1
    · rw [q, pk_us, pk_us]
    · rw [pk_un q, pk_un q, pk_un q, pk_un q]
  · rw [g3, g2, g1]
    funext j
    show (if n + 8 ≤ j ∧ j < n + 8 + 4 then byS c (24 - 8 * (j - (n + 8))) else if n + 4 ≤ j ∧ j < n + 4 + 4 then byS b (24 - 8 * (j - (n + 4))) else if n ≤ j ∧ j < n + 4 then byS a (24 - 8 * (j - n)) else M 22 j) = if n ≤ j ∧ j < n + 12 then fbS a b c (j - n) else M 22 j
    unfold fbS
    by_cases q3 : n + 8 ≤ j ∧ j < n + 8 + 4
    · rw [if_pos q3, if_pos (by omega), if_neg (by omega), if_neg (by omega), show (j - n) % 4 = j - (n + 8) by omega]
    · rw [if_neg q3]
      by_cases q2 : n + 4 ≤ j ∧ j < n + 4 + 4
      · rw [if_pos q2, if_pos (by omega), if_neg (by omega), if_pos (by omega), show (j - n) % 4 = j - (n + 4) by omega]
      · rw [if_neg q2]
        by_cases q1 : n ≤ j ∧ j < n + 4
        · rw [if_pos q1, if_pos (by omega), if_pos (by omega), show (j - n) % 4 = j - n by omega]
        · rw [if_neg q1, if_neg (by omega)]
theorem M_feed {a b c : Int32} {n : Nat} (hD : 4 ≤ D) (hn : n ≤ 96) (e : M 100 15 = nI n) (hfull : ¬ n + 12 ≤ 96 → R (some (.int (-1000000003))) M) (hR : n + 12 ≤ 96 → ∀ M', Ag [100, 114] M M' → M' 100 = upd (M 100) 15 (nI (n + 12)) → M' 114 = (fun j => if n ≤ j ∧ j < n + 12 then fbS a b c (j - n) else M 114 j) → R (some (.int (nI (n + 12)))) M') : Tr l G D mX8_feed [.ref (G.1 100), .int a, .int b, .int c] M R := by
  obtain ⟨d, rfl⟩ := dE (show 4 ≤ D by omega)
  have k : nI n + 12 = nI (n + 12) := by rw [show (12 : Int32) = nI 12 from rfl, nI_add]
  have k2 : nI (n + 12) ≤ 96 ↔ n + 12 ≤ 96 := le_nI (b := 96) (by omega) (by decide)
  have sh : ∀ i, (24 : Int32) - 8 * (nI i - nI i / 4 * 4) = nI (24 - 8 * (i % 4)) ∨ ¬ i < 2 ^ 31 := fun i => by
    by_cases hi : i < 2 ^ 31
    · left
      have h1 := pk_rem (a := i) (d := 4) hi (by decide) (by decide)
      rw [show (4 : Int32) = nI 4 from rfl, h1]
      have h2 : ∀ r, r < 4 → (24 : Int32) - 8 * nI r = nI (24 - 8 * r) := by decide
      exact h2 _ (Nat.mod_lt _ (by decide))
    · right; exact hi
  refine tX8_feed ?_
  rw [e, k, k2]
  refine ⟨fun h => ?_, hfull⟩
  have loop : ∀ i, i ≤ 12 → ∀ M', Ag [100, 114] M M' → M' 100 = upd (M 100) 15 (nI (n + i)) → M' 114 = (fun j => if n ≤ j ∧ j < n + i then fbS a b c (j - n) else M 114 j) → At l G (d + 4) mX8_feed 18 [some (.ref (G.1 100)), some (.int a), some (.int b), some (.int c), some (.int (nI i)), none] [] M' R := by
    refine upL (fun i => ∀ M', Ag [100, 114] M M' → M' 100 = upd (M 100) 15 (nI (n + i)) → M' 114 = (fun j => if n ≤ j ∧ j < n + i then fbS a b c (j - n) else M 114 j) → At l G (d + 4) mX8_feed 18 [some (.ref (G.1 100)), some (.int a), some (.int b), some (.int c), some (.int (nI i)), none] [] M' R) 12 ?_ ?_
    · intro M' hA e0 e1
      refine bX8_feed_18 ⟨fun _ => ?_, fun h => absurd (by decide : (12 : Int32) ≤ nI 12) h⟩
      rw [e0, pk_us]
      exact hR h M' hA e0 e1
    · intro i hi ih M' hA e0 e1
      have z : M' 100 15 = nI (n + i) := by rw [e0, pk_us]
      have go : ∀ (v : Int32) (M5 : Mem), v = (if i < 4 then a else if i < 8 then b else c) → M5 = um M' 114 (n + i) (byS v (24 - 8 * (i % 4))) → At l G (d + 4) mX8_feed 18 [some (.ref (G.1 100)), some (.int a), some (.int b), some (.int c), some (.int (nI (i + 1))), none] [] (um M5 100 15 ((M5 100 15) + 1)) R := by
        intro v M5 ev e5
        have z5 : M5 100 = M' 100 := by rw [e5, um_n _ _ _ (by decide)]
        rw [z5, z, p1]
        refine ih _ ?_ ?_ ?_
        · rw [e5]; exact (hA.ua (by decide) _).ua (by decide) _
        · rw [um_s, z5, e0]
          funext j
          by_cases q : j = 15
          · rw [q, pk_us, pk_us]; rfl
          · rw [pk_un q, pk_un q, pk_un q]
        · rw [um_n _ _ _ (by decide), e5, um_s, e1]
          funext j
          by_cases q : j = n + i
          · rw [q, pk_us, if_pos (by omega), show n + i - n = i by omega, ev]
            rfl
          · rw [pk_un q]
            by_cases q2 : n ≤ j ∧ j < n + i
            · rw [if_pos q2, if_pos (by omega)]
            · rw [if_neg q2, if_neg (by omega)]
      have hsh := (sh i).resolve_right (by omega)
      refine bX8_feed_18 ⟨fun h => absurd h (by rw [show (12 : Int32) = nI 12 from rfl, le_nI (by omega) (by omega)]; omega), fun _ => ?_⟩
      rw [z, ix_nI (by omega), hsh, p1, show (4 : Int32) ≤ nI i ↔ 4 ≤ i from le_nI (a := 4) (by decide) (by omega), show (8 : Int32) ≤ nI i ↔ 8 ≤ i from le_nI (a := 8) (by decide) (by omega)]
      refine ⟨fun h4 => ⟨fun h8 => ⟨vpn (by omega) (by decide), fun M5 e5 => go c M5 ?_ e5⟩, fun h8 => ⟨vpn (by omega) (by decide), fun M5 e5 => go b M5 ?_ e5⟩⟩, fun h4 => ⟨vpn (by omega) (by decide), fun M5 e5 => go a M5 ?_ e5⟩⟩
      · rw [if_neg (by omega), if_neg (by omega)]
      · rw [if_neg (by omega), if_pos (by omega)]
      · rw [if_pos (by omega)]
  refine loop 0 (Nat.zero_le _) M (Ag.rf _ _) ?_ ?_
  · funext j
    by_cases q : j = 15
    · rw [q, pk_us]; exact e
    · rw [pk_un q]
  · funext j
    rw [if_neg (by omega)]
end
