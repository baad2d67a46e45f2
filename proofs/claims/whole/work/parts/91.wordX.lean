-- the program's reading: its parts
def XP (t : Nat → Int32) (n : Nat) (key : Int32) (M : Mem) (σ : PSt) : Prop := M 21 1 = nI n ∧ M 22 = t ∧ LX M σ.1 ∧ M 21 3 = nI σ.2.1 ∧ (∀ i, i < σ.2.1 → M 23 i = encS (σ.2.2.1 i) (σ.2.2.2.1 i)) ∧ M 21 4 = nI σ.2.2.2.2 ∧ M 21 5 = key
theorem XP.k {t : Nat → Int32} {n : Nat} {key : Int32} {M : Mem} {σ : PSt} (h : XP t n key M σ) (hQ : QI t n σ.1) : (M 21 8 = 1 ↔ σ.1.2.2 = 1) ∧ (M 21 8 = 3 ↔ σ.1.2.2 = 3) ∧ (M 21 8 = 2 ↔ (σ.1.2.2 = 2 ∨ (M 21 8 = 2 ∧ σ.1.2.2 = 4 ∧ 4 < σ.1.2.1 - σ.1.1))) ∧ (M 21 8 = 0 ↔ σ.1.2.2 = 0) := by
  have h8 := h.2.2.1.2.2
  have h4 := hQ.2.2.1
  by_cases e : σ.1.2.2 = 4
  · rw [if_pos e] at h8
    rcases h8 with g | ⟨g, g2⟩
    · rw [g, e]; exact ⟨by decide, by decide, ⟨fun z => absurd z (by decide), fun z => z.elim (fun w => absurd w (by decide)) (fun w => w.1)⟩, by decide⟩
    · rw [g, e]; simp [g2]
  · rw [if_neg e] at h8
    rw [h8]
    have a : ∀ c, c < 5 → (nI σ.1.2.2 = nI c ↔ σ.1.2.2 = c) := fun c hc => nI_eq (by omega) (by omega)
    refine ⟨a 1 (by decide), a 3 (by decide), ⟨fun g => Or.inl ((a 2 (by decide)).mp g), fun g => g.elim (fun z => (a 2 (by decide)).mpr z) (fun z => absurd z.2.1 e)⟩, a 0 (by decide)⟩
theorem XP.sd {t : Nat → Int32} {n : Nat} {key : Int32} {M : Mem} {σ : PSt} (h : XP t n key M σ) : XP t n key (um M 21 4 (nI (σ.2.2.2.2 + 1))) (sdS σ) := by
  obtain ⟨a1, a2, ⟨a3, a4, a5⟩, a6, a7, a8, a9⟩ := h
  refine ⟨?_, ?_, ⟨?_, ?_, ?_⟩, ?_, fun i hi => ?_, ?_, ?_⟩
  · rw [um_s, pk_un (by decide)]; exact a1
  · rw [um_n _ _ _ (by decide)]; exact a2
  · rw [um_s, pk_un (by decide)]; exact a3
  · rw [um_s, pk_un (by decide)]; exact a4
  · rw [um_s, pk_un (by decide)]; exact a5
  · rw [um_s, pk_un (by decide)]; exact a6
  · rw [um_n _ _ _ (by decide)]; exact a7 i hi
  · rw [um_s, pk_us]; rfl
  · rw [um_s, pk_un (by decide)]; exact a9
theorem XP.pt {t : Nat → Int32} {n : Nat} {key : Int32} {M : Mem} {σ : PSt} (h : XP t n key M σ) (w v : Int32) : XP t n key (um (um M 23 σ.2.1 (encS w v)) 21 3 (nI (σ.2.1 + 1))) (ptS w v σ) := by
  obtain ⟨a1, a2, ⟨a3, a4, a5⟩, a6, a7, a8, a9⟩ := h
  have z : (um M 23 σ.2.1 (encS w v)) 21 = M 21 := um_n _ _ _ (by decide)
  refine ⟨?_, ?_, ⟨?_, ?_, ?_⟩, ?_, fun i hi => ?_, ?_, ?_⟩
  · rw [um_s, pk_un (by decide), z]; exact a1
  · rw [um_n _ _ _ (by decide), um_n _ _ _ (by decide)]; exact a2
  · rw [um_s, pk_un (by decide), z]; exact a3
  · rw [um_s, pk_un (by decide), z]; exact a4
  · rw [um_s, pk_un (by decide), z]; exact a5
  · rw [um_s, pk_us]; rfl
  · rw [um_n _ _ _ (by decide), um_s]
    show upd (M 23) σ.2.1 (encS w v) i = encS (upd σ.2.2.1 σ.2.1 w i) (upd σ.2.2.2.1 σ.2.1 v i)
    replace hi : i < σ.2.1 + 1 := hi
    by_cases e : i = σ.2.1
    · rw [e, pk_us, pk_us, pk_us]
    · rw [pk_un e, pk_un e, pk_un e]; exact a7 i (by omega)
  · rw [um_s, pk_un (by decide), z]; exact a8
  · rw [um_s, pk_un (by decide), z]; exact a9
def PX (t : Nat → Int32) (n : Nat) (key : Int32) (M : Mem) (r : Bool × PSt) (R : Option Value → Mem → Prop) : Prop := ∀ M', Ag [21, 23] M M' → (r.1 = true → XP t n key M' r.2) → (¬ r.1 = true → M' 21 6 = nI r.2.1.1 ∧ ∃ m, m ≤ 96 ∧ M' 21 3 = nI m) → R (some (.int (if r.1 = true then 1 else 0))) M'
theorem PX.tr {t : Nat → Int32} {n : Nat} {key : Int32} {M M1 : Mem} {r : Bool × PSt} {R : Option Value → Mem → Prop} (h : PX t n key M r R) (hA : Ag [21, 23] M M1) : PX t n key M1 r R := fun M' hA' h1 h2 => h M' (hA.tr hA') h1 h2
theorem PX.ok {t : Nat → Int32} {n : Nat} {key : Int32} {M M1 : Mem} {σ : PSt} {R : Option Value → Mem → Prop} (h : PX t n key M (true, σ) R) (hA : Ag [21, 23] M M1) (hX : XP t n key M1 σ) : R (some (.int 1)) M1 := h M1 hA (fun _ => hX) (fun z => absurd rfl z)
theorem PX.no {t : Nat → Int32} {n : Nat} {key : Int32} {M M1 : Mem} {σ : PSt} {R : Option Value → Mem → Prop} (h : PX t n key M (false, σ) R) (hA : Ag [21, 23] M M1) (h6 : M1 21 6 = nI σ.1.1) (hm : ∃ m, m ≤ 96 ∧ M1 21 3 = nI m) : R (some (.int 0)) M1 := h M1 hA (fun z => by cases z) (fun _ => ⟨h6, hm⟩)
section
variable {l : Launch} {G : GT} {D n : Nat} {M : Mem} {R : Option Value → Mem → Prop} {t : Nat → Int32} {key : Int32} {σ : PSt}
theorem sX5_put {m : Nat} {x : Int32} (hD : 4 ≤ D) (hm : m < 96) (e : M 21 3 = nI m) (hR : R none (um (um M 23 m x) 21 3 (nI (m + 1)))) : Tr l G D mX5_put [.ref (G.1 21), .int x] M R := by
  obtain ⟨d, rfl⟩ := dE hD
  refine tX5_put ?_
  rw [e]
  refine ⟨fun h => absurd h (by rw [show (96 : Int32) = nI 96 from rfl, le_nI (by omega) (by omega)]; omega), fun _ => ⟨vpn hm (by decide), fun M3 e3 => ?_⟩⟩
  rw [um_n _ _ _ (by decide), e, ix_nI (by omega), p1] at e3
  rw [e3]
  exact hR
theorem sX5_putF {m : Nat} {x : Int32} (hD : 4 ≤ D) (hm : m ≤ 96) (e : M 21 3 = nI m) (hR : ∀ M', Ag [21, 23] M M' → M' 21 6 = M 21 6 → (∃ m, m ≤ 96 ∧ M' 21 3 = nI m) → R none M') : Tr l G D mX5_put [.ref (G.1 21), .int x] M R := by
  by_cases h : m < 96
  · refine sX5_put hD h e (hR _ (((Ag.rf _ M).ua (by decide) _).ua (by decide) _) ?_ ⟨m + 1, by omega, ?_⟩)
    · rw [um_s, pk_un (by decide), um_n _ _ _ (by decide)]
    · rw [um_s, pk_us]
  · obtain ⟨d, rfl⟩ := dE hD
    refine tX5_put ?_
    rw [e]
    exact ⟨fun _ => hR M (Ag.rf _ _) rfl ⟨m, hm, e⟩, fun z => absurd (by rw [show (96 : Int32) = nI 96 from rfl, le_nI (by omega) (by omega)]; omega) z⟩
theorem sX5_stepP (hD : 8 ≤ D) (hn : n ≤ 96) (hX : XP t n key M σ) (hQ : QI t n σ.1) (hk : σ.1.2.2 ≠ 4) (hR : ∀ M', Ag [21] M M' → XP t n key M' (avS t n σ) → R none M') : Tr l G D mX5_step [.ref (G.1 21)] M R := by
  have hkk := hX.k hQ
  obtain ⟨a1, a2, ⟨a3, a4, a5⟩, a6, a7, a8, a9⟩ := hX
  refine sX5_step (q := σ.1) hD hn a1 a4 hQ.2.1 ⟨fun h => ?_, fun h => ?_⟩ (fun M' hA hf hl => hR M' hA ?_)
  · rcases h with h | h
    · exact Or.inl (hkk.1.mp h)
    · rcases hkk.2.2.1.mp h with z | z
      · exact Or.inr z
      · exact absurd z.2.1 hk
  · rcases h with h | h
    · exact Or.inl (hkk.1.mpr h)
    · exact Or.inr (hkk.2.2.1.mpr (Or.inl h))
  · rw [a2] at hl
    exact ⟨(hf 1 (by decide) (by decide) (by decide)).trans a1, (hA 22 (by decide)).trans a2, hl, (hf 3 (by decide) (by decide) (by decide)).trans a6, fun i hi => by rw [hA 23 (by decide)]; exact a7 i hi, (hf 4 (by decide) (by decide) (by decide)).trans a8, (hf 5 (by decide) (by decide) (by decide)).trans a9⟩
theorem sX5_joins {r : Nat} {c : Int32} (hD : 4 ≤ D) (hr : r ≤ 4) (hR : R (some (.int (if jnB r c = true then 1 else 0))) M) : Tr l G D mX5_joins [.int (nI r), .int c] M R := by
  obtain ⟨d, rfl⟩ := dE hD
  have ne : ∀ a b : Nat, a ≤ 4 → b ≤ 4 → a ≠ b → ¬ nI a = nI b := fun a b ha hb h => by rw [nI_eq (by omega) (by omega)]; exact h
  have h5 : r = 0 ∨ r = 1 ∨ r = 2 ∨ r = 3 ∨ r = 4 := by omega
  unfold jnB at hR
  refine tX5_joins ?_
  rcases h5 with rfl | rfl | rfl | rfl | rfl
  · refine ⟨fun _ => ⟨fun h => ?_, fun h => ?_⟩, fun h => absurd h (by decide), fun h => absurd h (by decide), fun h => absurd h (by decide), fun h => absurd h (by decide), fun h => absurd rfl h⟩
    · simpa [h] using hR
    · simpa [h] using hR
  · refine ⟨fun h => absurd h (by decide), fun _ => ⟨fun h => ?_, fun h => ?_⟩, fun h => absurd h (by decide), fun h => absurd h (by decide), fun h => absurd h (by decide), fun _ h => absurd rfl h⟩
    · simpa [h] using hR
    · simpa [h] using hR
  · refine ⟨fun h => absurd h (by decide), fun h => absurd h (by decide), fun _ => ⟨fun h => ?_, fun h => ⟨fun h2 => ?_, fun h2 => ⟨fun h3 => ?_, fun h3 => ?_⟩⟩⟩, fun h => absurd h (by decide), fun h => absurd h (by decide), fun _ _ h => absurd rfl h⟩
    · simpa [h] using hR
    · simpa [h, h2] using hR
    · simpa [h, h2, h3] using hR
    · simpa [h, h2, h3] using hR
  · refine ⟨fun h => absurd h (by decide), fun h => absurd h (by decide), fun h => absurd h (by decide), fun _ => ⟨fun h => ?_, fun h => ⟨fun h2 => ?_, fun h2 => ?_⟩⟩, fun h => absurd h (by decide), fun _ _ _ h => absurd rfl h⟩
    · simpa [h] using hR
    · simpa [h, h2] using hR
    · simpa [h, h2] using hR
  · refine ⟨fun h => absurd h (by decide), fun h => absurd h (by decide), fun h => absurd h (by decide), fun h => absurd h (by decide), fun _ => ⟨fun h => ?_, fun h => ⟨fun h2 => ?_, fun h2 => ?_⟩⟩, fun _ _ _ _ h => absurd rfl h⟩
    · simpa [h] using hR
    · simpa [h, h2] using hR
    · simpa [h, h2] using hR
theorem sX5_numberRead (hD : 4 ≤ D) (hn : n ≤ 96) (hX : XP t n key M σ) (hQ : QI t n σ.1) (hR : R (some (.int (if σ.1.2.1 - σ.1.1 ≤ 4 then nvS t σ.1.1 (σ.1.2.1 - σ.1.1) else (-1000000005)))) M) : Tr l G D mX5_numberRead [.ref (G.1 21)] M R := by
  obtain ⟨d, rfl⟩ := dE hD
  obtain ⟨a1, a2, ⟨a3, a4, a5⟩, a6, a7, a8, a9⟩ := hX
  have hbe := hQ.1
  have hen := hQ.2.1
  have s4 : nI (σ.1.2.1 - σ.1.1) ≤ 4 ↔ σ.1.2.1 - σ.1.1 ≤ 4 := le_nI (b := 4) (by omega) (by decide)
  refine tX5_numberRead ?_
  rw [a3, a4, sub_i (by omega) hbe, s4]
  refine ⟨fun h => ?_, fun h => by rw [if_neg h] at hR; exact hR⟩
  rw [if_pos h] at hR
  have loop : ∀ j, j ≤ σ.1.2.1 - σ.1.1 → At l G (d + 4) mX5_numberRead 23 [some (.ref (G.1 21)), some (.int (nvS t σ.1.1 j)), some (.int (nI (σ.1.1 + j)))] [] M R := by
    refine upL (fun j => At l G (d + 4) mX5_numberRead 23 [some (.ref (G.1 21)), some (.int (nvS t σ.1.1 j)), some (.int (nI (σ.1.1 + j)))] [] M R) _ ?_ ?_
    · refine bX5_numberRead_23 ⟨fun _ => hR, fun z => absurd ?_ z⟩
      rw [a4, le_nI (by omega) (by omega)]; omega
    · intro j hj ih
      refine bX5_numberRead_23 ⟨fun z => absurd z ?_, fun _ => ⟨vpn (by omega) (by decide), ?_⟩⟩
      · rw [a4, le_nI (by omega) (by omega)]; omega
      · rw [ix_nI (by omega), a2, p1]
        exact ih
  exact loop 0 (Nat.zero_le _)
theorem sX5_nameRead (hD : 8 ≤ D) (hn : n ≤ 96) (hkey : key = 0 ∨ key = 1 ∨ key = 2) (hX : XP t n key M σ) (hQ : QI t n σ.1) (h1 : σ.1.2.2 = 1) (hR : R (some (.int (if σ.1.2.1 - σ.1.1 = 1 ∧ nmB key (t σ.1.1) = true then 10000 + nmI (t σ.1.1) else (-1000000005)))) M) : Tr l G D mX5_nameRead [.ref (G.1 21)] M R := by
  obtain ⟨d, rfl⟩ := dE (show 4 ≤ D by omega)
  obtain ⟨a1, a2, ⟨a3, a4, a5⟩, a6, a7, a8, a9⟩ := hX
  have hbe := hQ.1
  have hen := hQ.2.1
  have hlt := hQ.2.2.2.1 (by omega)
  have hcl := hQ.2.2.2.2.2.2 h1 σ.1.1 (Nat.le_refl _) hlt
  obtain ⟨-, c1, c2⟩ := cl_1.mp hcl
  obtain ⟨a, ha, ea⟩ := Rg.ex (n := 128) (v := t σ.1.1) (by
    simp only [tle, show (97 : Int32).toInt = 97 from rfl, show (122 : Int32).toInt = 122 from rfl] at c1 c2
    exact ⟨by omega, by omega⟩)
  have s1 : nI (σ.1.2.1 - σ.1.1) = 1 ↔ σ.1.2.1 - σ.1.1 = 1 := nI_eq (b := 1) (by omega) (by decide)
  have c16 : ∀ a, a < 128 → ((nI a).toUInt32 % 65536).toInt32 = nI a := by decide +kernel
  have fin : ∀ i, i < 6 → (∀ c : Int32, (nmB key c = true → ixL c (sbyt.getD i []) 0 = nmI c ∧ 0 ≤ nmI c) ∧ (¬ nmB key c = true → ixL c (sbyt.getD i []) 0 = -1)) → (((M 21 7) - (M 21 6)) = 1 → vp_in (M 21 6) 96 ∧ (∃ j, j < 6 ∧ (G.2.2.2.2.1 i) = G.2.2.2.2.1 j) ∧ Tr l G (d + 3) mJ0_indexOf_0f7a4 [.ref (G.2.2.2.2.1 i), .int (((M 22 (ix (M 21 6))).toUInt32 % 65536).toInt32)] M (kI fun q M' => At l G (d + 4) mX5_nameRead 55 [none, none, none] [.int q] M' R)) ∧ (¬ (((M 21 7) - (M 21 6)) = 1) → R (some (.int (-1000000005))) M) := by
    intro i hi hc
    rw [a3, a4, sub_i (by omega) hbe, s1, ix_nI (by omega), a2, ea, c16 a ha]
    rw [ea] at hR
    refine ⟨fun h => ⟨vpn (by omega) (by decide), ⟨i, hi, rfl⟩, sJ0_indexOf (by omega) hi ha (kI_i (bX5_nameRead_55 ?_))⟩, fun h => by rw [if_neg (fun z => h z.1)] at hR; exact hR⟩
    by_cases c : nmB key (nI a) = true
    · obtain ⟨g1, g2⟩ := (hc (nI a)).1 c
      rw [if_pos ⟨h, c⟩] at hR
      rw [g1]
      exact ⟨fun _ => hR, fun z => absurd g2 z⟩
    · rw [if_neg (fun z => c z.2)] at hR
      rw [(hc (nI a)).2 c]
      exact ⟨fun z => absurd z (by decide), fun _ => hR⟩
  refine tX5_nameRead ?_
  rw [a9]
  rcases hkey with rfl | rfl | rfl
  · refine ⟨fun _ => fin 3 (by decide) (fun c => ?_), fun h => absurd rfl h⟩
    show (nmB 0 c = true → ixL c [119, 97, 111] 0 = nmI c ∧ _) ∧ (¬ nmB 0 c = true → ixL c [119, 97, 111] 0 = -1)
    unfold nmB nmI
    simp only [ixL]
    by_cases h1 : c = 119
    · rw [h1]; decide
    · by_cases h2 : c = 97
      · rw [h2]; decide
      · by_cases h3 : c = 111
        · rw [h3]; decide
        · simp [h1, h2, h3, Ne.symm h1, Ne.symm h2, Ne.symm h3]
  · refine ⟨fun h => absurd h (by decide), fun _ => ⟨fun _ => fin 4 (by decide) (fun c => ?_), fun h => absurd rfl h⟩⟩
    show (nmB 1 c = true → ixL c [107, 105] 0 = nmI c ∧ _) ∧ (¬ nmB 1 c = true → ixL c [107, 105] 0 = -1)
    unfold nmB nmI
    simp only [ixL]
    by_cases h1 : c = 107
    · rw [h1]; decide
    · by_cases h2 : c = 105
      · rw [h2]; decide
      · simp [h1, h2, Ne.symm h1, Ne.symm h2]
  · refine ⟨fun h => absurd h (by decide), fun _ => ⟨fun h => absurd h (by decide), fun _ => fin 5 (by decide) (fun c => ?_)⟩⟩
    show (nmB 2 c = true → ixL c [115, 112] 0 = nmI c ∧ _) ∧ (¬ nmB 2 c = true → ixL c [115, 112] 0 = -1)
    unfold nmB nmI
    simp only [ixL]
    by_cases h1 : c = 115
    · rw [h1]; decide
    · by_cases h2 : c = 112
      · rw [h2]; decide
      · simp [h1, h2, Ne.symm h1, Ne.symm h2]
def wdP (t : Nat → Int32) (q : Tk) (i : Nat) : Prop := q.2.2 = 1 ∧ q.2.1 - q.1 = slen.getD i 0 ∧ ∀ j, j < slen.getD i 0 → t (q.1 + j) = (sbyt.getD i []).getD j 0
theorem sX5_isWord {i : Nat} (hD : 8 ≤ D) (hi : i < 6) (hn : n ≤ 96) (hX : XP t n key M σ) (hQ : QI t n σ.1) (h1 : wdP t σ.1 i → R (some (.int 1)) M) (h0 : ¬ wdP t σ.1 i → R (some (.int 0)) M) : Tr l G D mX5_isWord [.ref (G.1 21), .ref (G.2.2.2.2.1 i)] M R := by
  obtain ⟨d, rfl⟩ := dE (show 4 ≤ D by omega)
  have hkk := (hX.k hQ).1
  obtain ⟨a1, a2, ⟨a3, a4, a5⟩, a6, a7, a8, a9⟩ := hX
  have hbe := hQ.1
  have hen := hQ.2.1
  have h4 : slen.getD i 0 ≤ 4 := by
    have : ∀ i, i < 6 → slen.getD i 0 ≤ 4 := by decide
    exact this i hi
  refine tX5_isWord ?_
  rw [hkk]
  refine ⟨fun k1 => ⟨⟨i, hi, rfl⟩, sJ0_length (by omega) hi (kI_i (bX5_isWord_21 ?_))⟩, fun k1 => h0 (fun z => k1 z.1)⟩
  rw [a3, a4, sub_i (by omega) hbe, nI_eq (by omega) (by omega)]
  refine ⟨fun hlen => ?_, fun hlen => h0 (fun z => hlen z.2.1)⟩
  have loop : ∀ j, j ≤ slen.getD i 0 → (∀ c, c < j → t (σ.1.1 + c) = (sbyt.getD i []).getD c 0) → At l G (d + 4) mX5_isWord 28 [some (.ref (G.1 21)), some (.ref (G.2.2.2.2.1 i)), some (.int (nI j))] [] M R := by
    refine upL (fun j => (∀ c, c < j → t (σ.1.1 + c) = (sbyt.getD i []).getD c 0) → At l G (d + 4) mX5_isWord 28 [some (.ref (G.1 21)), some (.ref (G.2.2.2.2.1 i)), some (.int (nI j))] [] M R) _ ?_ ?_
    · intro hc
      refine bX5_isWord_28 ⟨⟨i, hi, rfl⟩, sJ0_length (by omega) hi (kI_i (bX5_isWord_33 ⟨fun _ => h1 ⟨k1, hlen, hc⟩, fun z => absurd (Int32.le_refl _) z⟩))⟩
    · intro j hj ih hc
      refine bX5_isWord_28 ⟨⟨i, hi, rfl⟩, sJ0_length (by omega) hi (kI_i (bX5_isWord_33 ⟨fun z => absurd z ?_, fun _ => ⟨?_, ⟨i, hi, rfl⟩, sJ0_charAt (by omega) hi hj (kI_i (bX5_isWord_52 ?_))⟩⟩))⟩
      · rw [le_nI (by omega) (by omega)]; omega
      · rw [a3, nI_add]; exact vpn (by omega) (by decide)
      · rw [a3, nI_add, ix_nI (by omega), a2, p1]
        refine ⟨fun h => ih (fun c hcj => ?_), fun h => h0 (fun z => h (z.2.2 j hj))⟩
        by_cases e : c = j
        · rw [e]; exact h
        · exact hc c (by omega)
  exact loop 0 (Nat.zero_le _) (fun c hc => absurd hc (Nat.not_lt_zero c))
end
