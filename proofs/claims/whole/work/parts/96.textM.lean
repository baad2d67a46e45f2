-- the reference's text
section
variable {l : Launch} {G : GT} {D n A pa no : Nat} {M : Mem} {R : Option Value → Mem → Prop} {t : Nat → Int32} {key : Int32} {σ : PSt}
theorem sX8_isWord4 {a b c e : Int32} (hD : 4 ≤ D) (hn : n ≤ 96) (hX : MP t n A pa no M σ) (hQ : QI t n σ.1) (he : ¬ e = 0) (h1 : (σ.1.2.2 = 1 ∧ σ.1.2.1 - σ.1.1 = 4 ∧ t σ.1.1 = a ∧ t (σ.1.1 + 1) = b ∧ t (σ.1.1 + 2) = c ∧ t (σ.1.1 + 3) = e) → R (some (.int 1)) M) (h0 : ¬ (σ.1.2.2 = 1 ∧ σ.1.2.1 - σ.1.1 = 4 ∧ t σ.1.1 = a ∧ t (σ.1.1 + 1) = b ∧ t (σ.1.1 + 2) = c ∧ t (σ.1.1 + 3) = e) → R (some (.int 0)) M) : Tr l G D mX8_isWordAt [.ref (G.1 100), .int a, .int b, .int c, .int e] M R := by
  obtain ⟨d, rfl⟩ := dE hD
  have hk := (hX.k hQ).2.1
  obtain ⟨a1, a2, ⟨b1, b2, -⟩, -⟩ := hX
  have hbe := hQ.1
  have hen := hQ.2.1
  have s4 : nI (σ.1.2.1 - σ.1.1) = 4 ↔ σ.1.2.1 - σ.1.1 = 4 := nI_eq (b := 4) (by omega) (by decide)
  have e3 : nI σ.1.1 + 3 = nI (σ.1.1 + 3) := nI_add _ 3
  have e2 : nI σ.1.1 + 2 = nI (σ.1.1 + 2) := nI_add _ 2
  refine tX8_isWordAt ⟨fun h => absurd h he, fun _ => ?_⟩
  rw [hk, b1, b2, sub_i (by omega) hbe, s4, p1, e2, e3, a2]
  refine ⟨fun k1 => ⟨fun h4 => ?_, fun h => h0 (fun z => h z.2.1)⟩, fun h => h0 (fun z => h z.1)⟩
  rw [ix_nI (show σ.1.1 < 2 ^ 31 by omega), ix_nI (show σ.1.1 + 1 < 2 ^ 31 by omega), ix_nI (show σ.1.1 + 2 < 2 ^ 31 by omega), ix_nI (show σ.1.1 + 3 < 2 ^ 31 by omega)]
  exact ⟨vpn (by omega) (by decide), fun g1 => ⟨vpn (by omega) (by decide), fun g2 => ⟨vpn (by omega) (by decide), fun g3 => ⟨fun h => absurd h he, fun _ => ⟨vpn (by omega) (by decide), fun g4 => h1 ⟨k1, h4, g1, g2, g3, g4⟩, fun h => h0 (fun z => h z.2.2.2.2.2)⟩⟩, fun h => h0 (fun z => h z.2.2.2.2.1)⟩, fun h => h0 (fun z => h z.2.2.2.1)⟩, fun h => h0 (fun z => h z.2.2.1)⟩
theorem sX8_isWord3 {a b c : Int32} (hD : 4 ≤ D) (hn : n ≤ 96) (hX : MP t n A pa no M σ) (hQ : QI t n σ.1) (h1 : (σ.1.2.2 = 1 ∧ σ.1.2.1 - σ.1.1 = 3 ∧ t σ.1.1 = a ∧ t (σ.1.1 + 1) = b ∧ t (σ.1.1 + 2) = c) → R (some (.int 1)) M) (h0 : ¬ (σ.1.2.2 = 1 ∧ σ.1.2.1 - σ.1.1 = 3 ∧ t σ.1.1 = a ∧ t (σ.1.1 + 1) = b ∧ t (σ.1.1 + 2) = c) → R (some (.int 0)) M) : Tr l G D mX8_isWordAt [.ref (G.1 100), .int a, .int b, .int c, .int 0] M R := by
  obtain ⟨d, rfl⟩ := dE hD
  have hk := (hX.k hQ).2.1
  obtain ⟨a1, a2, ⟨b1, b2, -⟩, -⟩ := hX
  have hbe := hQ.1
  have hen := hQ.2.1
  have s4 : nI (σ.1.2.1 - σ.1.1) = 3 ↔ σ.1.2.1 - σ.1.1 = 3 := nI_eq (b := 3) (by omega) (by decide)
  have e2 : nI σ.1.1 + 2 = nI (σ.1.1 + 2) := nI_add _ 2
  refine tX8_isWordAt ⟨fun _ => ?_, fun h => absurd rfl h⟩
  rw [hk, b1, b2, sub_i (by omega) hbe, s4, p1, e2, a2]
  refine ⟨fun k1 => ⟨fun h4 => ?_, fun h => h0 (fun z => h z.2.1)⟩, fun h => h0 (fun z => h z.1)⟩
  rw [ix_nI (show σ.1.1 < 2 ^ 31 by omega), ix_nI (show σ.1.1 + 1 < 2 ^ 31 by omega), ix_nI (show σ.1.1 + 2 < 2 ^ 31 by omega)]
  exact ⟨vpn (by omega) (by decide), fun g1 => ⟨vpn (by omega) (by decide), fun g2 => ⟨vpn (by omega) (by decide), fun g3 => ⟨fun _ => h1 ⟨k1, h4, g1, g2, g3⟩, fun h => absurd rfl h⟩, fun h => h0 (fun z => h z.2.2.2.2)⟩, fun h => h0 (fun z => h z.2.2.2.1)⟩, fun h => h0 (fun z => h z.2.2.1)⟩
theorem wd4 {t : Nat → Int32} {q : Tk} {i : Nat} {a b c e : Int32} (hl : slen.getD i 0 = 4) (hb : sbyt.getD i [] = [a, b, c, e]) : wdP t q i ↔ (q.2.2 = 1 ∧ q.2.1 - q.1 = 4 ∧ t q.1 = a ∧ t (q.1 + 1) = b ∧ t (q.1 + 2) = c ∧ t (q.1 + 3) = e) := by
  unfold wdP
  rw [hl, hb]
  refine ⟨fun h => ⟨h.1, h.2.1, h.2.2 0 (by decide), h.2.2 1 (by decide), h.2.2 2 (by decide), h.2.2 3 (by decide)⟩, fun h => ⟨h.1, h.2.1, fun j hj => ?_⟩⟩
  obtain ⟨-, -, h0, h1, h2, h3⟩ := h
  have hj4 : j = 0 ∨ j = 1 ∨ j = 2 ∨ j = 3 := by omega
  rcases hj4 with rfl | rfl | rfl | rfl
  · exact h0
  · exact h1
  · exact h2
  · exact h3
theorem wd3 {t : Nat → Int32} {q : Tk} {i : Nat} {a b c : Int32} (hl : slen.getD i 0 = 3) (hb : sbyt.getD i [] = [a, b, c]) : wdP t q i ↔ (q.2.2 = 1 ∧ q.2.1 - q.1 = 3 ∧ t q.1 = a ∧ t (q.1 + 1) = b ∧ t (q.1 + 2) = c) := by
  unfold wdP
  rw [hl, hb]
  refine ⟨fun h => ⟨h.1, h.2.1, h.2.2 0 (by decide), h.2.2 1 (by decide), h.2.2 2 (by decide)⟩, fun h => ⟨h.1, h.2.1, fun j hj => ?_⟩⟩
  obtain ⟨-, -, h0, h1, h2⟩ := h
  have hj4 : j = 0 ∨ j = 1 ∨ j = 2 := by omega
  rcases hj4 with rfl | rfl | rfl
  · exact h0
  · exact h1
  · exact h2
theorem sX8_key (hD : 8 ≤ D) (hn : n ≤ 96) (hX : MP t n A pa no M σ) (hQ : QI t n σ.1) (hR : R (some (.int (kyS t σ.1))) M) : Tr l G D mX8_key [.ref (G.1 100)] M R := by
  obtain ⟨d, rfl⟩ := dE (show 4 ≤ D by omega)
  have ky := ky_is t σ.1
  have q0 : wdP t σ.1 0 ↔ _ := wd4 (a := 117) (b := 114) (c := 103) (e := 101) rfl rfl
  have q1 : wdP t σ.1 1 ↔ _ := wd3 (a := 102) (b := 101) (c := 101) rfl rfl
  have q2 : wdP t σ.1 2 ↔ _ := wd4 (a := 102) (b := 105) (c := 110) (e := 101) rfl rfl
  refine tX8_key (sX8_isWord4 (by omega) hn hX hQ (by decide) (fun w0 => kI_i (bX8_key_12 ⟨fun h => absurd h (by decide), fun _ => ?_⟩)) (fun w0 => kI_i (bX8_key_12 ⟨fun _ => ?_, fun h => absurd rfl h⟩)))
  · rw [← q0] at w0
    rcases ky with ⟨e, -⟩ | ⟨-, g, -⟩ | ⟨-, g, -⟩ | ⟨-, g, -⟩
    · rw [e] at hR; exact hR
    · exact absurd w0 g
    · exact absurd w0 g
    · exact absurd w0 g
  · rw [← q0] at w0
    refine sX8_isWord3 (by omega) hn hX hQ (fun w1 => kI_i (bX8_key_28 ⟨fun h => absurd h (by decide), fun _ => ?_⟩)) (fun w1 => kI_i (bX8_key_28 ⟨fun _ => ?_, fun h => absurd rfl h⟩))
    · rw [← q1] at w1
      rcases ky with ⟨-, g⟩ | ⟨e, -⟩ | ⟨-, -, g, -⟩ | ⟨-, -, g, -⟩
      · exact absurd g w0
      · rw [e] at hR; exact hR
      · exact absurd w1 g
      · exact absurd w1 g
    · rw [← q1] at w1
      refine sX8_isWord4 (by omega) hn hX hQ (by decide) (fun w2 => kI_i (bX8_key_45 ⟨fun h => absurd h (by decide), fun _ => ?_⟩)) (fun w2 => kI_i (bX8_key_45 ⟨fun _ => ?_, fun h => absurd rfl h⟩))
      · rw [← q2] at w2
        rcases ky with ⟨-, g⟩ | ⟨-, -, g⟩ | ⟨e, -⟩ | ⟨-, -, -, g⟩
        · exact absurd g w0
        · exact absurd g w1
        · rw [e] at hR; exact hR
        · exact absurd w2 g
      · rw [← q2] at w2
        rcases ky with ⟨-, g⟩ | ⟨-, -, g⟩ | ⟨-, -, -, g⟩ | ⟨e, -⟩
        · exact absurd g w0
        · exact absurd g w1
        · exact absurd g w2
        · rw [e] at hR; exact hR
def FT (A : Nat) (M M' : Mem) : Prop := Ag [100, 101] M M' ∧ (∀ j, ¬ (15 ≤ j ∧ j ≤ 25) → M' 100 j = M 100 j) ∧ (∀ j, ¬ (A ≤ j ∧ j < A + 192) → M' 101 j = M 101 j) ∧ M' 100 15 = 0
theorem FM.tp {A : Nat} {M M1 : Mem} (h : FM A M M1) : FT A M (um M1 100 15 0) := ⟨h.1.ua (by decide) _, fun j hj => by rw [um_s, pk_un (by omega)]; exact h.2.1 j (by omega), fun j hj => by rw [um_n _ _ _ (by decide)]; exact h.2.2 j hj, by rw [um_s, pk_us]⟩
def atS (T : Nat) : Nat := if T < 14 then 88 + 200 * T else 2884
theorem sX8_parse {T : Nat} (hD : 94 ≤ D) (hn : n ≤ 96) (hT : T ≤ 14) (e1 : M 100 15 = nI n) (eT : M 101 1 = nI T) (hok : txOk (M 114) n → ∀ M', FT (atS T) M M' → M' 100 23 = nI (txR (M 114) n).2.2.1 → M' 100 25 = nI (txR (M 114) n).2.2.2.2.2 → (∀ i, i < (txR (M 114) n).2.2.1 → M' 101 (atS T + 2 * i) = (txR (M 114) n).2.2.2.1 i ∧ M' 101 (atS T + 2 * i + 1) = (txR (M 114) n).2.2.2.2.1 i) → R (some (.int (txK (M 114) n))) M') (hno : ¬ txOk (M 114) n → ∀ M', FT (atS T) M M' → M' 100 16 = nI (txF (M 114) n) → R (some (.int (-1))) M') : Tr l G D mX8_parse [.ref (G.1 100)] M R := by
  obtain ⟨d, rfl⟩ := dE (show 4 ≤ D by omega)
  have hA : atS T ≤ 2884 := by unfold atS; split <;> omega
  have s14 : (14 : Int32) ≤ nI T ↔ 14 ≤ T := le_nI (a := 14) (by decide) (by omega)
  have eA : 84 + 200 * nI T + 4 = nI (88 + 200 * T) := by
    show nI 84 + nI 200 * nI T + nI 4 = _
    rw [pk_mul, nI_add, nI_add]
    congr 1
    omega
  -- from the first word on
  have go : ∀ M3 : Mem, FM (atS T) M M3 → M3 100 17 = 0 → M3 100 18 = 3 → M3 100 21 = 0 → M3 100 22 = 0 → M3 100 23 = 0 → M3 100 25 = 0 → M3 100 24 = nI (atS T) → Tr l G (d + 3) mX8_nextToken [.ref (G.1 100)] M3 (kV fun M' => At l G (d + 4) mX8_parse 67 [some (.ref (G.1 100)), none, none] [] M' R) := by
    intro M3 hF g17 g18 g21 g22 g23 g25 g24
    have e114 : M3 114 = M 114 := hF.1 114 (by decide)
    refine sX8_nextToken (q := (0, 0, 3)) (n := n) (by omega) hn ((hF.2.1 15 (by decide)).trans e1) g17 (Nat.zero_le _) ?_ (fun z => absurd z (by decide)) (fun M1 hA1 hf1 hl1 => kV_i (bX8_parse_67 ?_))
    · rw [g18]; decide
    · rw [e114] at hl1
      have e101 : M1 101 = M3 101 := hA1 101 (by decide)
      have hF1 : FM (atS T) M M1 := hF.tr ⟨hA1.sub (by decide), fun j hj => hf1 j (by omega), fun j _ => by rw [e101]⟩
      have hX1 : MP (M 114) n (atS T) 0 0 M1 (q1S (M 114) n, 0, fun _ => 0, fun _ => 0, 0) := ⟨(hF1.2.1 15 (by decide)).trans e1, hF1.1 114 (by decide), hl1, (hf1 21 (by decide)).trans g21, (hf1 22 (by decide)).trans g22, (hf1 23 (by decide)).trans g23, (hf1 24 (by decide)).trans g24, fun i hi => absurd hi (Nat.not_lt_zero i), (hf1 25 (by decide)).trans g25⟩
      refine sX8_key (by omega) hn hX1 q1_QI (kI_i (bX8_parse_71 ?_))
      show (txK (M 114) n < 0 → _) ∧ (¬ (txK (M 114) n < 0) → _)
      by_cases kn : txK (M 114) n = -1
      · refine ⟨fun _ => ?_, fun h => absurd (by rw [kn]; decide) h⟩
        refine hno (fun z => z.1 kn) _ hF1.tp ?_
        rw [um_s, pk_un (by decide)]
        unfold txF
        rw [if_pos kn]
        exact hl1.1
      · obtain ⟨k1, kk⟩ := ky_ok kn
        have kk' : txK (M 114) n = 0 ∨ txK (M 114) n = 1 ∨ txK (M 114) n = 2 := kk
        refine ⟨fun h => ?_, fun _ => ?_⟩
        · rcases kk' with g | g | g <;> rw [g] at h <;> exact absurd h (by decide)
        · refine sX8_nextP (σ := (q1S (M 114) n, 0, fun _ => 0, fun _ => 0, 0)) (by omega) hn hX1 q1_QI (fun M4 hF4 hX4 => kV_i (bX8_parse_90 ?_))
          have hF4' := hF1.tr hF4
          have hb := (s0_QI (t := M 114) (n := n)).1
          have he := (s0_QI (t := M 114) (n := n)).2.1
          refine (sim_M hn hA kk' 1200).1 0 0 0 (s0S (M 114) n) M4 (d + 3) _ (by omega) (by omega) (by omega) (by omega) (by omega) s0_QI (Nat.zero_le _) hX4 ?_
          intro M5 hF5 g1 g2
          have hF5' := hF4'.tr hF5
          refine kI_i (bX8_parse_95 ⟨fun y => ?_, fun y => ?_⟩)
          · rw [bl_0] at y
            refine hno (fun z => y z.2.1) _ hF5'.tp ?_
            rw [um_s, pk_un (by decide)]
            unfold txF
            rw [if_neg kn]
            exact g2 y
          · rw [bl_0, Classical.not_not] at y
            have hX5 := g1 y
            have hk := (hX5.k tx_QI.1).1
            refine ⟨fun h0 => ?_, fun h0 => ?_⟩
            · refine hok ⟨kn, y, hk.mp h0⟩ _ hF5'.tp ?_ ?_ (fun i hi => ?_)
              · rw [um_s, pk_un (by decide)]; exact hX5.2.2.2.2.2.1
              · rw [um_s, pk_un (by decide)]; exact hX5.2.2.2.2.2.2.2.2
              · rw [um_n _ _ _ (by decide)]; exact hX5.2.2.2.2.2.2.2.1 i hi
            · refine hno (fun z => h0 (hk.mpr z.2.2)) _ hF5'.tp ?_
              rw [um_s, pk_un (by decide)]
              unfold txF
              rw [if_neg kn]
              exact hX5.2.2.1.1
  refine tX8_parse (fun M1 em => ?_)
  have hF1 : FM (atS T) M M1 := by
    rw [em]
    exact ((((FM.rf _ M).f (by decide) _).f (by decide) _).f (by decide) _ |>.f (by decide) _).f (by decide) _
  have c1 : (um M1 100 25 0) 101 1 = nI T := by rw [um_n _ _ _ (by decide), hF1.2.2 1 (by unfold atS; split <;> omega)]; exact eT
  rw [c1, s14]
  have fin : ∀ v : Int32, v = nI (atS T) → Tr l G (d + 3) mX8_nextToken [.ref (G.1 100)] (um (um M1 100 25 0) 100 24 v) (kV fun M' => At l G (d + 4) mX8_parse 67 [some (.ref (G.1 100)), none, none] [] M' R) := by
    intro v ev
    refine go _ ((hF1.f (by decide) _).f (by decide) _) ?_ ?_ ?_ ?_ ?_ ?_ ?_
    all_goals simp (disch := decide) only [um_s, pk_un, pk_us, em]
    exact ev
  refine ⟨fun h => fin _ (by unfold atS; rw [if_neg (by omega)]; rfl), fun h M3 e3 => ?_⟩
  rw [e3]
  exact fin _ (by rw [eA]; unfold atS; rw [if_pos (by omega)])
def TxM (t : Nat → Int32) (n : Nat) (T : Nat) (M M' : Mem) : Prop := Ag [100, 101] M M' ∧ (∀ j, ¬ (15 ≤ j ∧ j ≤ 25) → M' 100 j = M 100 j) ∧ M' 100 15 = 0 ∧ M' 101 1 = nI (T + 1) ∧ M' 101 (84 + 200 * T) = txK t n ∧ M' 101 (85 + 200 * T) = nI (txR t n).2.2.2.2.2 ∧ M' 101 (86 + 200 * T) = nI (txR t n).2.2.1 ∧ (∀ i, i < (txR t n).2.2.1 → M' 101 (88 + 200 * T + 2 * i) = (txR t n).2.2.2.1 i ∧ M' 101 (89 + 200 * T + 2 * i) = (txR t n).2.2.2.2.1 i) ∧ ∀ j, j ≠ 1 → (j < 84 + 200 * T ∨ 284 + 200 * T ≤ j) → M' 101 j = M 101 j
theorem M_text {T : Nat} (hD : 100 ≤ D) (hn : n ≤ 96) (hT : T ≤ 14) (e1 : M 100 15 = nI n) (eT : M 101 1 = nI T) (hno : ¬ txOk (M 114) n → ∀ M', FT (atS T) M M' → R (some (.int (-100 - nI (txF (M 114) n)))) M') (hfull : txOk (M 114) n → T = 14 → ∀ M', FT (atS T) M M' → R (some (.int (-1000000003))) M') (hR : txOk (M 114) n → T < 14 → ∀ M', TxM (M 114) n T M M' → R (some (.int (nI T))) M') : Tr l G D mX8_text [.ref (G.1 100)] M R := by
  obtain ⟨d, rfl⟩ := dE (show 4 ≤ D by omega)
  have hl1 : ∀ M', FT (atS T) M M' → M' 101 1 = nI T := fun M' h => (h.2.2.1 1 (by unfold atS; split <;> omega)).trans eT
  have s14 : nI T = 14 ↔ T = 14 := nI_eq (b := 14) (by omega) (by decide)
  refine tX8_text (sX8_parse (by omega) hn hT e1 eT (fun ok M1 hF g23 g25 grow => kI_i (bX8_text_4 ⟨fun _ => ?_, fun h => absurd ?_ h⟩)) (fun no M1 hF g16 => kI_i (bX8_text_4 ⟨fun h => absurd h (by decide), fun _ => by rw [g16]; exact hno no M1 hF⟩)))
  · rw [hl1 M1 hF, s14]
    refine ⟨fun h => hfull ok h M1 hF, fun h => ?_⟩
    have hlt : T < 14 := by omega
    have eAt : atS T = 88 + 200 * T := if_pos hlt
    have z0 : 84 + 200 * nI T + 0 = nI (84 + 200 * T) := by
      show nI 84 + nI 200 * nI T + nI 0 = _
      rw [pk_mul, nI_add, nI_add]
      rfl
    have z1 : 84 + 200 * nI T + 1 = nI (85 + 200 * T) := by
      show nI 84 + nI 200 * nI T + nI 1 = _
      rw [pk_mul, nI_add, nI_add]
      congr 1
      omega
    have z2 : 84 + 200 * nI T + 2 = nI (86 + 200 * T) := by
      show nI 84 + nI 200 * nI T + nI 2 = _
      rw [pk_mul, nI_add, nI_add]
      congr 1
      omega
    rw [z0, z1, z2, ix_nI (show 84 + 200 * T < 2 ^ 31 by omega), ix_nI (show 85 + 200 * T < 2 ^ 31 by omega), ix_nI (show 86 + 200 * T < 2 ^ 31 by omega)]
    refine ⟨vpn (by omega) (by decide), vpn (by omega) (by decide), fun M5 e5 => ⟨vpn (by omega) (by decide), fun M7 e7 => ?_⟩⟩
    have m100 : M5 100 = M1 100 := by rw [e5, um_n _ _ _ (by decide), um_n _ _ _ (by decide)]
    rw [um_n _ _ _ (by decide), g25] at e5
    rw [m100, g23] at e7
    have m1 : (um M5 101 (86 + 200 * T) (nI (txR (M 114) n).2.2.1)) 101 1 = nI T := by
      rw [um_s, pk_un (by omega), e5, um_s, pk_un (by omega), um_s, pk_un (by omega)]
      exact hl1 M1 hF
    rw [m1, p1] at e7
    have f1 : M7 101 1 = nI (T + 1) := by rw [e7, um_s, pk_us]
    have r7 : ∀ j, j ≠ 1 → j ≠ 84 + 200 * T → j ≠ 85 + 200 * T → j ≠ 86 + 200 * T → M7 101 j = M1 101 j := fun j h1 h2 h3 h4 => by
      rw [e7, um_s, pk_un h1, um_s, pk_un h4, e5, um_s, pk_un h3, um_s, pk_un h2]
    have m7 : M7 100 = M1 100 := by rw [e7, um_n _ _ _ (by decide), um_n _ _ _ (by decide)]; exact m100
    rw [f1, show (nI (T + 1) : Int32) - 1 = nI T from by rw [show (1 : Int32) = nI 1 from rfl, sub_i (by omega) (by omega), Nat.add_sub_cancel]]
    refine hR ok hlt M7 ⟨?_, fun j hj => by rw [m7]; exact hF.2.1 j hj, by rw [m7]; exact hF.2.2.2, f1, ?_, ?_, ?_, fun i hi => ?_, fun j hj hj2 => ?_⟩
    · rw [e7]
      refine ((Ag.tr hF.1 ?_).ua (by decide) _).ua (by decide) _
      rw [e5]
      exact ((Ag.rf _ M1).ua (by decide) _).ua (by decide) _
    · rw [e7, um_s, pk_un (by omega), um_s, pk_un (by omega), e5, um_s, pk_un (by omega), um_s, pk_us]
    · rw [e7, um_s, pk_un (by omega), um_s, pk_un (by omega), e5, um_s, pk_us]
    · rw [e7, um_s, pk_un (by omega), um_s, pk_us]
    · have g := grow i hi
      rw [eAt] at g
      rw [r7 _ (by omega) (by omega) (by omega) (by omega), r7 _ (by omega) (by omega) (by omega) (by omega), show 89 + 200 * T + 2 * i = 88 + 200 * T + 2 * i + 1 by omega]
      exact g
    · rw [r7 j hj (by omega) (by omega) (by omega)]
      exact hF.2.2.1 j (by omega)
  · have kk := (ky_ok ok.1).2
    have kk' : txK (M 114) n = 0 ∨ txK (M 114) n = 1 ∨ txK (M 114) n = 2 := kk
    rcases kk' with g | g | g <;> rw [g] <;> decide
end
