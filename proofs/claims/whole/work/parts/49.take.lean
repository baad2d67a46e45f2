-- a land laid aside: the copy of a land, and how far a day moves the count of steps
theorem fad_n {k j : Nat} (h1 : j ≠ 13 + 4 * k) (h8 : j ≠ 8) : ∀ (f left : Nat) (s : Nat → Int32), fadS k f left s j = s j
  | 0, _, _ => rfl
  | f + 1, left, s => by
    simp only [fadS]
    split
    · rfl
    · split
      · rw [fad_n h1 h8 f (left - 1) _, pk_un (Ne.symm (Ne.symm h8)), pk_un (Ne.symm (Ne.symm h1))]
      · exact fad_n h1 h8 f left s
theorem ag_n (s : Nat → Int32) {k j : Nat} (h1 : j ≠ 13 + 4 * k) (h2 : j ≠ 12 + 4 * k) (h8 : j ≠ 8) : agS s k j = s j := by
  unfold agS
  show fadS k 14 _ _ j = _
  rw [fad_n h1 h8]
  exact pk_un h2
theorem wa_26 (s : Nat → Int32) (k w : Nat) : waS s k w 2 = s 2 ∧ (waS s k w 6 = s 6 ∨ waS s k w 6 = s 6 + 1) := by
  unfold waS
  split
  · split
    · refine ⟨?_, Or.inr ?_⟩
      · rw [pk_un (by omega), pk_un (by omega)]
      · rw [pk_us]
    · refine ⟨?_, Or.inr ?_⟩
      · rw [pk_un (by omega), pk_un (by omega), pk_un (by omega), pk_un (by omega)]
      · rw [pk_un (by omega), pk_un (by omega), pk_us]
  · exact ⟨rfl, Or.inl rfl⟩
theorem wn_26 (s : Nat → Int32) (k : Nat) : wnS s k 2 = s 2 ∧ (wnS s k 6 = s 6 ∨ wnS s k 6 = s 6 + 1) := by
  unfold wnS
  split
  · exact ⟨dr_n s (by decide), Or.inl (dr_n s (by decide))⟩
  · split
    · exact ⟨dr_n s (by decide), Or.inl (dr_n s (by decide))⟩
    · have h := wa_26 (drS (drS s)) k (ix (irm (dvS (drS (drS s))) (s 3)))
      rw [dr_n _ (by decide), dr_n _ (by decide), dr_n _ (by decide), dr_n _ (by decide)] at h
      exact h
theorem sl_26 (s : Nat → Int32) : slS s 2 = s 2 ∧ slS s 6 = s 6 := by
  unfold slS
  split
  · exact ⟨dr_n s (by decide), dr_n s (by decide)⟩
  · split
    · exact ⟨dr_n s (by decide), dr_n s (by decide)⟩
    · refine ⟨?_, ?_⟩
      · rw [pk_un (by omega), dr_n _ (by decide), dr_n _ (by decide)]
      · rw [pk_un (by omega), dr_n _ (by decide), dr_n _ (by decide)]
theorem itw_26 (s : Nat → Int32) {w : Nat} (hw : s 6 = nI w) : ∀ n, itN (fun k s => wnS s k) n s 2 = s 2 ∧ ∃ v, itN (fun k s => wnS s k) n s 6 = nI v ∧ v ≤ w + n
  | 0 => ⟨rfl, w, hw, Nat.le_refl _⟩
  | n + 1 => by
    obtain ⟨h1, v, h2, h3⟩ := itw_26 s hw n
    rw [it_s]
    have h := wn_26 (itN (fun k s => wnS s k) n s) n
    refine ⟨h.1.trans h1, ?_⟩
    rcases h.2 with e | e
    · exact ⟨v, e.trans h2, by omega⟩
    · exact ⟨v + 1, by rw [e, h2, p1], by omega⟩
theorem ita_26 (s : Nat → Int32) : ∀ n, itN (fun k s => agS s k) n s 2 = s 2 ∧ itN (fun k s => agS s k) n s 6 = s 6
  | 0 => ⟨rfl, rfl⟩
  | n + 1 => by
    obtain ⟨h1, h2⟩ := ita_26 s n
    rw [it_s, ag_n _ (by omega) (by omega) (by decide), ag_n _ (by omega) (by omega) (by decide)]
    exact ⟨h1, h2⟩
theorem day_26 {s : Nat → Int32} {w : Nat} (h8 : np s ≤ 8) (hw : s 6 = nI w) : dayS s 2 = s 2 + 1 ∧ ∃ v, dayS s 6 = nI v ∧ v ≤ w + 8 := by
  obtain ⟨a1, v, a2, a3⟩ := itw_26 s hw (np s)
  obtain ⟨b1, b2⟩ := ita_26 (itN (fun k s => wnS s k) (np s) s) (np s)
  obtain ⟨c1, c2⟩ := sl_26 (itN (fun k s => agS s k) (np s) (itN (fun k s => wnS s k) (np s) s))
  refine ⟨?_, v, ?_, by omega⟩
  · unfold dayS
    rw [pk_us, c1, b1, a1]
  · unfold dayS
    rw [pk_un (by decide), c2, b2, a2]
theorem dys_26 {s : Nat → Int32} (hI : Inv s) {w dd : Nat} (hw : s 6 = nI w) (hd : s 2 = nI dd) : ∀ n, dysS n s 2 = nI (dd + n) ∧ ∃ v, dysS n s 6 = nI v ∧ v ≤ w + 8 * n
  | 0 => ⟨hd, w, hw, by omega⟩
  | n + 1 => by
    obtain ⟨h1, v, h2, h3⟩ := dys_26 hI hw hd n
    have h8 := (inv_dys hI n).1.2
    rw [dys_s]
    obtain ⟨g1, v2, g2, g3⟩ := day_26 h8 h2
    exact ⟨by rw [g1, h1, p1]; rfl, v2, g2, by omega⟩
section
variable {l : Launch} {G : GT} {D : Nat} {M : Mem} {R : Option Value → Mem → Prop} {b : Nat} {s : Nat → Int32}
theorem sX8_laysBy (hD : 4 ≤ D) (hR : ∀ M', Ag [113] M M' → (∀ j, j < 84 → M' 113 j = M 101 j) → R none M') : Tr l G D mX8_laysBy [.ref (G.1 100)] M R := by
  obtain ⟨d, rfl⟩ := dE hD
  refine tX8_laysBy ?_
  have loop : ∀ i, i ≤ 84 → ∀ M', Ag [113] M M' → (∀ j, j < i → M' 113 j = M 101 j) → At l G (d + 4) mX8_laysBy 2 [some (.ref (G.1 100)), some (.int (nI i))] [] M' R := by
    refine upL (fun i => ∀ M', Ag [113] M M' → (∀ j, j < i → M' 113 j = M 101 j) → At l G (d + 4) mX8_laysBy 2 [some (.ref (G.1 100)), some (.int (nI i))] [] M' R) 84 ?_ ?_
    · intro M' hA he
      exact bX8_laysBy_2 ⟨fun _ => hR M' hA he, fun h => absurd (by rw [show (84 : Int32) = nI 84 from rfl, le_nI (by omega) (by omega)]; exact Nat.le_refl _) h⟩
    · intro i hi ih M' hA he
      refine bX8_laysBy_2 ⟨fun h => absurd h (by rw [show (84 : Int32) = nI 84 from rfl, le_nI (by omega) (by omega)]; omega), fun _ => ⟨vpn (by omega) (by decide), vpn (by omega) (by decide), ?_⟩⟩
      rw [p1, ix_nI (by omega)]
      refine ih _ (hA.ua (by decide) _) (fun j hj => ?_)
      rw [um_s, hA 101 (by decide)]
      by_cases e : j = i
      · rw [e, pk_us]
      · rw [pk_un e]; exact he j (by omega)
  exact loop 0 (by omega) M (Ag.rf _ _) (fun j hj => absurd hj (Nat.not_lt_zero j))
theorem sX8_laysBack (hD : 4 ≤ D) (hR : ∀ M', Ag [101] M M' → M' 101 = (fun j => if j < 84 then M 113 j else M 101 j) → R none M') : Tr l G D mX8_laysBack [.ref (G.1 100)] M R := by
  obtain ⟨d, rfl⟩ := dE hD
  refine tX8_laysBack ?_
  have loop : ∀ i, i ≤ 84 → ∀ M', Ag [101] M M' → M' 101 = (fun j => if j < i then M 113 j else M 101 j) → At l G (d + 4) mX8_laysBack 2 [some (.ref (G.1 100)), some (.int (nI i))] [] M' R := by
    refine upL (fun i => ∀ M', Ag [101] M M' → M' 101 = (fun j => if j < i then M 113 j else M 101 j) → At l G (d + 4) mX8_laysBack 2 [some (.ref (G.1 100)), some (.int (nI i))] [] M' R) 84 ?_ ?_
    · intro M' hA he
      exact bX8_laysBack_2 ⟨fun _ => hR M' hA he, fun h => absurd (by rw [show (84 : Int32) = nI 84 from rfl, le_nI (by omega) (by omega)]; exact Nat.le_refl _) h⟩
    · intro i hi ih M' hA he
      refine bX8_laysBack_2 ⟨fun h => absurd h (by rw [show (84 : Int32) = nI 84 from rfl, le_nI (by omega) (by omega)]; omega), fun _ => ⟨vpn (by omega) (by decide), vpn (by omega) (by decide), ?_⟩⟩
      rw [p1, ix_nI (by omega)]
      refine ih _ (hA.ua (by decide) _) ?_
      rw [um_s, he, hA 113 (by decide)]
      funext j
      by_cases e : j = i
      · rw [e, pk_us, if_pos (by omega)]
      · rw [pk_un e]
        by_cases q : j < i
        · rw [if_pos q, if_pos (by omega)]
        · rw [if_neg q, if_neg (by omega)]
  exact loop 0 (by omega) M (Ag.rf _ _) (by funext j; rw [if_neg (Nat.not_lt_zero j)])
theorem ldc_c {b c j : Nat} (hb : IsLd b) (hc : IsLd c) (hne : b ≠ c) (hj : j ≤ 8) : c + j ∉ ldC b := by
  unfold IsLd at hb hc
  simp only [ldC, List.mem_cons, List.not_mem_nil, or_false]
  omega
theorem sX1_take {c : Nat} (hb : IsLd b) (hc : IsLd c) (hne : b ≠ c) (hD : 4 ≤ D) (hL : LR M c s) (hR : ∀ M', Ag (ldC b) M M' → LR M' b s → R none M') : Tr l G D mX1_take [.ref (G.1 b), .ref (G.1 c)] M R := by
  obtain ⟨d, rfl⟩ := dE hD
  have i0 : ix 0 = 0 := by decide
  have i8 : ix 8 = 8 := by decide
  have i14 : ix 14 = 14 := by decide
  have i10 : ix 10 = 10 := by decide
  have i3 : ix 3 = 3 := by decide
  refine tX1_take hb hc (fun M1 e1 M2 e2 M3 e3 M4 e4 M5 e5 M6 e6 M7 e7 M8 e8 M9 e9 M10 e10 M11 e11 M12 e12 => ?_)
  have hb' := hb
  have hc' := hc
  unfold IsLd at hb' hc'
  have c0 := ldc_c hb hc hne (j := 0) (by omega)
  have cj : ∀ j, j ≤ 8 → c + j ∉ ldC b := fun j hj => ldc_c hb hc hne hj
  have A1 : Ag (ldC b) M M1 := by rw [e1]; refine ((Ag.rf _ M).ua ?_ _).ua ?_ _ <;> simp [ldC]
  have A2 : Ag (ldC b) M M2 := by rw [e2]; refine A1.ua ?_ _; simp [ldC]
  have A3 : Ag (ldC b) M M3 := by rw [e3]; refine A2.ua ?_ _; simp [ldC]
  have A4 : Ag (ldC b) M M4 := by rw [e4]; refine A3.ua ?_ _; simp [ldC]
  have A5 : Ag (ldC b) M M5 := by rw [e5]; refine (A4.ua ?_ _).ua ?_ _ <;> simp [ldC]
  have A6 : Ag (ldC b) M M6 := by rw [e6]; refine A5.ua ?_ _; simp [ldC]
  have A7 : Ag (ldC b) M M7 := by rw [e7]; refine A6.ua ?_ _; simp [ldC]
  have A8 : Ag (ldC b) M M8 := by rw [e8]; refine (A7.ua ?_ _).ua ?_ _ <;> simp [ldC]
  have A9 : Ag (ldC b) M M9 := by rw [e9]; refine (A8.ua ?_ _).ua ?_ _ <;> simp [ldC]
  have A10 : Ag (ldC b) M M10 := by rw [e10]; refine (A9.ua ?_ _).ua ?_ _ <;> simp [ldC]
  have A11 : Ag (ldC b) M M11 := by rw [e11]; refine (A10.ua ?_ _).ua ?_ _ <;> simp [ldC]
  have A12 : Ag (ldC b) M M12 := by rw [e12]; refine (A11.ua ?_ _).ua ?_ _ <;> simp [ldC]
  have q0 : c ∉ ldC b := c0
  simp (disch := omega) only [um_n, A1 _ (cj 2 (by decide)), A2 _ (cj 3 (by decide)), A3 _ (cj 4 (by decide)), A4 _ (cj 5 (by decide)), A4 _ q0, A5 _ (cj 6 (by decide)), A6 _ (cj 7 (by decide)), A7 _ q0, A8 _ q0, A9 _ q0, A10 _ q0, A11 _ q0, A11 _ (cj 8 (by decide)), i0, i8, i10, i14, i3] at e1 e2 e3 e4 e5 e6 e7 e8 e9 e10 e11 e12
  obtain ⟨⟨a1, a2, a3, a4, a5, a6, a7, a8, a9, a10, a11⟩, g1, g2, g3, g4, g5, g6, g7, g8⟩ := hL
  refine hR M12 A12 ⟨⟨?_, ?_, ?_, ?_, ?_, ?_, ?_, ?_, ?_, ?_, ?_⟩, fun k hk => ?_, fun k hk => ?_, fun k hk => ?_, fun k hk => ?_, fun k hk => ?_, fun k hk => ?_, fun k hk => ?_, fun k hk => ?_⟩
  all_goals simp (disch := omega) only [e12, e11, e10, e9, e8, e7, e6, e5, e4, e3, e2, e1, um_s, um_n, ua_s, ua_n, pk_us, pk_un]
  · exact a1
  · exact a2
  · exact a3
  · exact a4
  · exact a5
  · exact a6
  · exact a7
  · exact a8
  · exact a9
  · exact a10
  · exact a11
  · rw [sb_cpy0 hk]; exact g1 k hk
  · rw [sb_cpy0 hk]; exact g2 k hk
  · rw [sb_cpy0 hk]; exact g3 k hk
  · rw [sb_cpy0 hk]; exact g4 k hk
  · rw [sb_cpy0 hk]; exact g5 k hk
  · rw [sb_cpy0 hk]; exact g6 k hk
  · rw [sb_cpy0 hk]; exact g7 k hk
  · rw [sb_cpy0 hk]; exact g8 k hk
end
