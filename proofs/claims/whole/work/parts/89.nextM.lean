-- the reference's next word
def LM (M : Mem) (t : Nat → Int32) (q : Tk) : Prop := M 100 16 = nI q.1 ∧ M 100 17 = nI q.2.1 ∧ M 100 18 = nI q.2.2 ∧ (q.2.2 = 3 → M 100 20 = t q.1) ∧ (q.2.2 = 1 → M 100 20 = if q.2.1 - q.1 = 1 then t q.1 else 0) ∧ (q.2.2 = 2 → M 100 19 = nvS t q.1 (q.2.1 - q.1))
theorem sub_i {a b : Nat} (ha : a ≤ 96) (hb : b ≤ a) : nI a - nI b = nI (a - b) := by
  rw [teq, pk_sub_toInt (by omega) (by omega), tnI (by omega)]
  omega
section
variable {l : Launch} {G : GT} {D : Nat} {M : Mem} {R : Option Value → Mem → Prop}
theorem sX8_nextToken {n : Nat} {q : Tk} (hD : 4 ≤ D) (hn : n ≤ 96) (e1 : M 100 15 = nI n) (e7 : M 100 17 = nI q.2.1) (he : q.2.1 ≤ n) (hk : (M 100 18 = 1 ∨ M 100 18 = 2) ↔ (q.2.2 = 1 ∨ q.2.2 = 2)) (h0 : (q.2.2 = 1 ∨ q.2.2 = 2) → 0 < q.2.1) (hR : ∀ M', Ag [100] M M' → (∀ j, ¬ (16 ≤ j ∧ j ≤ 20) → M' 100 j = M 100 j) → LM M' (M 114) (nxS (M 114) n q) → R none M') : Tr l G D mX8_nextToken [.ref (G.1 100)] M R := by
  obtain ⟨d, rfl⟩ := dE (show 4 ≤ D by omega)
  obtain ⟨b0, e, k⟩ := q
  replace e7 : M 100 17 = nI e := e7
  replace he : e ≤ n := he
  replace hk : (M 100 18 = 1 ∨ M 100 18 = 2) ↔ (k = 1 ∨ k = 2) := hk
  replace h0 : (k = 1 ∨ k = 2) → 0 < e := h0
  obtain ⟨sb1, sb2⟩ := sk_in (t := M 114) he
  obtain ⟨en1, en2, en3, en4, en5⟩ := en_in (t := M 114) sb2
  have hR' : ∀ M', Ag [100] M M' → (∀ j, ¬ (16 ≤ j ∧ j ≤ 20) → M' 100 j = M 100 j) → M' 100 16 = nI (skS (M 114) n e) → M' 100 17 = nI (enS (M 114) n (skS (M 114) n e)) → M' 100 18 = nI (kiS (M 114) n e k (skS (M 114) n e)) → (kiS (M 114) n e k (skS (M 114) n e) = 3 → M' 100 20 = M 114 (skS (M 114) n e)) → (kiS (M 114) n e k (skS (M 114) n e) = 1 → M' 100 20 = if enS (M 114) n (skS (M 114) n e) - skS (M 114) n e = 1 then M 114 (skS (M 114) n e) else 0) → (kiS (M 114) n e k (skS (M 114) n e) = 2 → M' 100 19 = nvS (M 114) (skS (M 114) n e) (enS (M 114) n (skS (M 114) n e) - skS (M 114) n e)) → R none M' := fun M' hA hf a b c d e f => hR M' hA hf ⟨a, b, c, d, e, f⟩
  generalize hb : skS (M 114) n e = b at *
  -- behind a word
  have at162 : clS (M 114) n b = 1 → ∀ (v1 : Int32) (M' : Mem), (v1 = 0 ∧ ¬ ((k = 1 ∨ k = 2) ∧ b = e) ∨ v1 = 1 ∧ ((k = 1 ∨ k = 2) ∧ b = e)) → Ag [100] M M' → (∀ j, ¬ (16 ≤ j ∧ j ≤ 20) → M' 100 j = M 100 j) → M' 100 16 = nI b → M' 100 17 = nI (enS (M 114) n b) → (v1 = 0 → At l G (d + 4) mX8_nextToken 162 [some (.ref (G.1 100)), none, none] [.int 1, .ref (G.1 100)] M' R) ∧ (¬ v1 = 0 → At l G (d + 4) mX8_nextToken 162 [some (.ref (G.1 100)), none, none] [.int 4, .ref (G.1 100)] M' R) := by
    intro c1 v1 M' hv hA hf g6 g7
    have e114 : M' 114 = M 114 := hA 114 (by decide)
    have go : ∀ tk : Nat, tk = kiS (M 114) n e k b → (tk = 1 ∨ tk = 4) → At l G (d + 4) mX8_nextToken 162 [some (.ref (G.1 100)), none, none] [.int (nI tk), .ref (G.1 100)] M' R := by
      intro tk etk h14
      have q6 : (um M' 100 18 (nI tk)) 100 16 = nI b := by rw [um_s, pk_un (by decide)]; exact g6
      have q7 : (um M' 100 18 (nI tk)) 100 17 = nI (enS (M 114) n b) := by rw [um_s, pk_un (by decide)]; exact g7
      have fin : ∀ v : Int32, (v = if enS (M 114) n b - b = 1 then M 114 b else 0) → At l G (d + 4) mX8_nextToken 192 [none, none, none] [.int v, .ref (G.1 100)] (um M' 100 18 (nI tk)) R := by
        intro v ev
        refine bX8_nextToken_192 (hR' _ ((hA.ua (by decide) _).ua (by decide) _) (fun j hj => ?_) ?_ ?_ ?_ (fun z => by omega) (fun _ => ?_) (fun z => by omega))
        · rw [um_s, pk_un (by omega), um_s, pk_un (by omega)]; exact hf j hj
        · rw [um_s, pk_un (by decide)]; exact q6
        · rw [um_s, pk_un (by decide)]; exact q7
        · rw [um_s, pk_un (by decide), um_s, pk_us, etk]
        · rw [um_s, pk_us]; exact ev
      refine bX8_nextToken_162 ?_
      rw [q6, q7, sub_i (by omega) en1, um_n _ _ _ (by decide), e114, ix_nI (by omega)]
      have s1 : nI (enS (M 114) n b - b) = 1 ↔ enS (M 114) n b - b = 1 := nI_eq (b := 1) (by omega) (by decide)
      rw [s1]
      have hbn : b < n := (cl_1.mp c1).1
      exact ⟨fun h => ⟨vpn (by omega) (by decide), fin _ (by rw [if_pos h])⟩, fun h => fin 0 (by rw [if_neg h])⟩
    have ek : kiS (M 114) n e k b = if (k = 1 ∨ k = 2) ∧ b = e then 4 else 1 := by
      unfold kiS
      rw [if_neg (by omega)]
      by_cases z : (k = 1 ∨ k = 2) ∧ b = e
      · rw [if_pos z, if_pos z]
      · rw [if_neg z, if_neg z, if_neg (by omega), c1]
    rcases hv with ⟨rfl, z⟩ | ⟨rfl, z⟩
    · rw [if_neg z] at ek
      exact ⟨fun _ => go 1 ek.symm (Or.inl rfl), fun h => absurd rfl h⟩
    · rw [if_pos z] at ek
      exact ⟨fun h => absurd h (by decide), fun _ => go 4 ek.symm (Or.inr rfl)⟩
  have at128 : clS (M 114) n b = 1 → ∀ v1 : Int32, (v1 = 0 ∧ ¬ ((k = 1 ∨ k = 2) ∧ b = e) ∨ v1 = 1 ∧ ((k = 1 ∨ k = 2) ∧ b = e)) → ∀ p, p ≤ n → ∀ M', Ag [100] M M' → (∀ j, ¬ (16 ≤ j ∧ j ≤ 20) → M' 100 j = M 100 j) → M' 100 16 = nI b → M' 100 17 = nI p → runS (M 114) n 1 p = enS (M 114) n b → At l G (d + 4) mX8_nextToken 128 [some (.ref (G.1 100)), some (.int v1), none] [] M' R := by
    intro c1 v1 hv
    have body : ∀ p M', p ≤ n → Ag [100] M M' → (∀ j, ¬ (16 ≤ j ∧ j ≤ 20) → M' 100 j = M 100 j) → M' 100 16 = nI b → M' 100 17 = nI p → runS (M 114) n 1 p = enS (M 114) n b → (clS (M 114) n p = 1 → At l G (d + 4) mX8_nextToken 128 [some (.ref (G.1 100)), some (.int v1), none] [] (um M' 100 17 (nI (p + 1))) R) → At l G (d + 4) mX8_nextToken 128 [some (.ref (G.1 100)), some (.int v1), none] [] M' R := by
      intro p M' hp hA hf g6 g7 hen hgo
      have l1 : M' 100 15 = nI n := (hf 15 (by decide)).trans e1
      have e114 : M' 114 = M 114 := hA 114 (by decide)
      have stop : ¬ clS (M 114) n p = 1 → _ := fun z => at162 c1 v1 M' hv hA hf g6 (by rw [← hen, run_stop z]; exact g7)
      refine bX8_nextToken_128 ?_
      rw [l1, g7, le_nI (by omega) (by omega), ix_nI (by omega), e114, p1]
      refine ⟨fun h => stop (fun z => by rw [cl_0.mpr h] at z; omega), fun h => ⟨vpn (by omega) (by decide), fun h1 => ⟨fun h2 => hgo (cl_1.mpr ⟨by omega, h1, h2⟩), fun h2 => stop (fun z => h2 (cl_1.mp z).2.2)⟩, fun h1 => stop (fun z => h1 (cl_1.mp z).2.1)⟩⟩
    refine upL (fun p => ∀ M', Ag [100] M M' → (∀ j, ¬ (16 ≤ j ∧ j ≤ 20) → M' 100 j = M 100 j) → M' 100 16 = nI b → M' 100 17 = nI p → runS (M 114) n 1 p = enS (M 114) n b → At l G (d + 4) mX8_nextToken 128 [some (.ref (G.1 100)), some (.int v1), none] [] M' R) n ?_ ?_
    · intro M' hA hf g6 g7 hen
      exact body n M' (Nat.le_refl _) hA hf g6 g7 hen (fun z => absurd (cl_1.mp z).1 (Nat.lt_irrefl _))
    · intro p hp ih M' hA hf g6 g7 hen
      exact body p M' (by omega) hA hf g6 g7 hen (fun z => ih _ (hA.ua (by decide) _) (fun j hj => by rw [um_s, pk_un (by omega)]; exact hf j hj) (by rw [um_s, pk_un (by decide)]; exact g6) (by rw [um_s, pk_us]) (by rw [← run_go (by decide) z]; exact hen))
  -- a number
  have at305 : clS (M 114) n b = 2 → ∀ (v1 : Int32) (M' : Mem), (v1 = 0 ∧ ¬ ((k = 1 ∨ k = 2) ∧ b = e) ∨ v1 = 1 ∧ ((k = 1 ∨ k = 2) ∧ b = e)) → Ag [100] M M' → (∀ j, ¬ (16 ≤ j ∧ j ≤ 20) → M' 100 j = M 100 j) → M' 100 16 = nI b → M' 100 17 = nI (enS (M 114) n b) → (enS (M 114) n b - b ≤ 4 → M' 100 19 = nvS (M 114) b (enS (M 114) n b - b)) → (v1 = 0 → (((M' 100 17) - (M' 100 16)) ≤ 4 → At l G (d + 4) mX8_nextToken 305 [none, none, none] [.int 2, .ref (G.1 100)] M' R) ∧ (¬ (((M' 100 17) - (M' 100 16)) ≤ 4) → At l G (d + 4) mX8_nextToken 300 [none, none, none] [.ref (G.1 100)] M' R)) ∧ (¬ (v1 = 0) → At l G (d + 4) mX8_nextToken 300 [none, none, none] [.ref (G.1 100)] M' R) := by
    intro c2 v1 M' hv hA hf g6 g7 g19
    have go : ∀ tk : Nat, tk = kiS (M 114) n e k b → (tk = 2 ∧ enS (M 114) n b - b ≤ 4 ∨ tk = 4) → At l G (d + 4) mX8_nextToken 305 [none, none, none] [.int (nI tk), .ref (G.1 100)] M' R := by
      intro tk etk h24
      refine bX8_nextToken_305 (hR' _ (hA.ua (by decide) _) (fun j hj => ?_) ?_ ?_ ?_ (fun z => by omega) (fun z => by omega) (fun z => ?_))
      · rw [um_s, pk_un (by omega)]; exact hf j hj
      · rw [um_s, pk_un (by decide)]; exact g6
      · rw [um_s, pk_un (by decide)]; exact g7
      · rw [um_s, pk_us, etk]
      · rw [um_s, pk_un (by decide)]
        exact g19 (by omega)
    rw [g6, g7, sub_i (by omega) en1]
    have s4 : nI (enS (M 114) n b - b) ≤ 4 ↔ enS (M 114) n b - b ≤ 4 := le_nI (b := 4) (by omega) (by decide)
    rw [s4]
    have ek : kiS (M 114) n e k b = if (k = 1 ∨ k = 2) ∧ b = e then 4 else if 4 < enS (M 114) n b - b then 4 else 2 := by
      unfold kiS
      rw [if_neg (by omega)]
      by_cases z : (k = 1 ∨ k = 2) ∧ b = e
      · rw [if_pos z, if_pos z]
      · rw [if_neg z, if_neg z]
        by_cases z2 : 4 < enS (M 114) n b - b
        · rw [if_pos ⟨c2, z2⟩, if_pos z2]
        · rw [if_neg (fun w => z2 w.2), if_neg z2, c2]
    rcases hv with ⟨rfl, z⟩ | ⟨rfl, z⟩
    · rw [if_neg z] at ek
      refine ⟨fun _ => ⟨fun h => ?_, fun h => ?_⟩, fun h => absurd rfl h⟩
      · rw [if_neg (by omega)] at ek
        exact go 2 ek.symm (Or.inl ⟨rfl, h⟩)
      · rw [if_pos (by omega)] at ek
        exact bX8_nextToken_300 (go 4 ek.symm (Or.inr rfl))
    · rw [if_pos z] at ek
      exact ⟨fun h => absurd h (by decide), fun _ => bX8_nextToken_300 (go 4 ek.symm (Or.inr rfl))⟩
  have at214 : clS (M 114) n b = 2 → ∀ v1 : Int32, (v1 = 0 ∧ ¬ ((k = 1 ∨ k = 2) ∧ b = e) ∨ v1 = 1 ∧ ((k = 1 ∨ k = 2) ∧ b = e)) → ∀ p, p ≤ n → ∀ M', b ≤ p → Ag [100] M M' → (∀ j, ¬ (16 ≤ j ∧ j ≤ 20) → M' 100 j = M 100 j) → M' 100 16 = nI b → M' 100 17 = nI p → M' 100 19 = nvS (M 114) b (if p - b ≤ 4 then p - b else 4) → runS (M 114) n 2 p = enS (M 114) n b → At l G (d + 4) mX8_nextToken 214 [some (.ref (G.1 100)), some (.int v1), none] [] M' R := by
    intro c2 v1 hv
    have body : ∀ p M', p ≤ n → b ≤ p → Ag [100] M M' → (∀ j, ¬ (16 ≤ j ∧ j ≤ 20) → M' 100 j = M 100 j) → M' 100 16 = nI b → M' 100 17 = nI p → M' 100 19 = nvS (M 114) b (if p - b ≤ 4 then p - b else 4) → runS (M 114) n 2 p = enS (M 114) n b → (clS (M 114) n p = 2 → ∀ x, x = nvS (M 114) b (if p + 1 - b ≤ 4 then p + 1 - b else 4) → At l G (d + 4) mX8_nextToken 214 [some (.ref (G.1 100)), some (.int v1), none] [] (um (um M' 100 19 x) 100 17 (nI (p + 1))) R) → At l G (d + 4) mX8_nextToken 214 [some (.ref (G.1 100)), some (.int v1), none] [] M' R := by
      intro p M' hp hbp hA hf g6 g7 g19 hen hgo
      have l1 : M' 100 15 = nI n := (hf 15 (by decide)).trans e1
      have e114 : M' 114 = M 114 := hA 114 (by decide)
      have stop : ¬ clS (M 114) n p = 2 → _ := fun z => at305 c2 v1 M' hv hA hf g6 (by rw [← hen, run_stop z]; exact g7) (fun w => by rw [← hen, run_stop z] at w ⊢; rw [g19, if_pos w])
      have go : clS (M 114) n p = 2 → ∀ x : Int32, x = nvS (M 114) b (if p + 1 - b ≤ 4 then p + 1 - b else 4) → At l G (d + 4) mX8_nextToken 266 [some (.ref (G.1 100)), some (.int v1), none] [.int x, .ref (G.1 100)] M' R := by
        intro z x ex
        refine bX8_nextToken_266 ?_
        rw [um_s, pk_un (by decide), g7, p1]
        have := hgo z x ex
        exact this
      refine bX8_nextToken_214 ⟨fun h => ?_, fun h => ⟨by rw [g7]; exact vpn (by rw [l1, g7, le_nI (by omega) (by omega)] at h; omega) (by decide), fun h1 => ⟨fun h2 => ?_, fun h2 => ?_⟩, fun h1 => ?_⟩⟩
      · rw [l1, g7, le_nI (by omega) (by omega)] at h
        exact stop (fun z => by rw [cl_0.mpr h] at z; omega)
      all_goals rw [l1, g7, le_nI (by omega) (by omega)] at h
      · rw [g7, ix_nI (by omega), e114] at h1 h2
        have z : clS (M 114) n p = 2 := cl_2.mpr ⟨by omega, h1, h2⟩
        rw [g6, g7, sub_i (by omega) hbp, ix_nI (by omega), e114, g19]
        have s4 : (4 : Int32) ≤ nI (p - b) ↔ 4 ≤ p - b := le_nI (a := 4) (by decide) (by omega)
        rw [s4]
        refine ⟨fun w => go z _ ?_, fun w => ⟨vpn (by omega) (by decide), go z _ ?_⟩⟩
        · by_cases w4 : p - b = 4
          · rw [if_pos (by omega), if_neg (by omega), w4]
          · rw [if_neg (by omega), if_neg (by omega)]
        · rw [if_pos (by omega), if_pos (by omega), show p + 1 - b = (p - b) + 1 by omega]
          show _ = 10 * nvS (M 114) b (p - b) + M 114 (b + (p - b)) - 48
          rw [show b + (p - b) = p by omega]
      · rw [g7, ix_nI (by omega), e114] at h1 h2
        exact stop (fun z => h2 (cl_2.mp z).2.2)
      · rw [g7, ix_nI (by omega), e114] at h1
        exact stop (fun z => h1 (cl_2.mp z).2.1)
    refine upL (fun p => ∀ M', b ≤ p → Ag [100] M M' → (∀ j, ¬ (16 ≤ j ∧ j ≤ 20) → M' 100 j = M 100 j) → M' 100 16 = nI b → M' 100 17 = nI p → M' 100 19 = nvS (M 114) b (if p - b ≤ 4 then p - b else 4) → runS (M 114) n 2 p = enS (M 114) n b → At l G (d + 4) mX8_nextToken 214 [some (.ref (G.1 100)), some (.int v1), none] [] M' R) n ?_ ?_
    · intro M' hbp hA hf g6 g7 g19 hen
      exact body n M' (Nat.le_refl _) hbp hA hf g6 g7 g19 hen (fun z => absurd (cl_2.mp z).1 (Nat.lt_irrefl _))
    · intro p hp ih M' hbp hA hf g6 g7 g19 hen
      exact body p M' (by omega) hbp hA hf g6 g7 g19 hen (fun z x ex => ih _ (by omega) ((hA.ua (by decide) _).ua (by decide) _) (fun j hj => by rw [um_s, pk_un (by omega), um_s, pk_un (by omega)]; exact hf j hj) (by rw [um_s, pk_un (by decide), um_s, pk_un (by decide)]; exact g6) (by rw [um_s, pk_us]) (by rw [um_s, pk_un (by decide), um_s, pk_us]; exact ex) (by rw [← run_go (by decide) z]; exact hen))
  have at89 : ∀ (v1 : Int32) (M' : Mem), (v1 = 0 ∧ ¬ ((k = 1 ∨ k = 2) ∧ b = e) ∨ v1 = 1 ∧ ((k = 1 ∨ k = 2) ∧ b = e)) → Ag [100] M M' → (∀ j, ¬ (16 ≤ j ∧ j ≤ 20) → M' 100 j = M 100 j) → M' 100 17 = nI b → At l G (d + 4) mX8_nextToken 89 [some (.ref (G.1 100)), none, none] [.int v1] M' R := by
    intro v1 M' hv hA hf g7
    have l1 : M' 100 15 = nI n := (hf 15 (by decide)).trans e1
    have e114 : M' 114 = M 114 := hA 114 (by decide)
    rw [show At l G (d + 4) mX8_nextToken 89 [some (.ref (G.1 100)), none, none] [.int v1] M' R = At l G (d + 4) mX8_nextToken 89 [some (.ref (G.1 100)), none, none] [.int v1] M' R from rfl]
    have a16 : (um M' 100 16 (M' 100 17)) 100 16 = nI b := by rw [um_s, pk_us]; exact g7
    have a15 : (um M' 100 16 (M' 100 17)) 100 15 = nI n := by rw [um_s, pk_un (by decide)]; exact l1
    have a17 : (um M' 100 16 (M' 100 17)) 100 17 = nI b := by rw [um_s, pk_un (by decide)]; exact g7
    have a114 : (um M' 100 16 (M' 100 17)) 114 = M 114 := by rw [um_n _ _ _ (by decide)]; exact e114
    have b16 : (um (um M' 100 16 (M' 100 17)) 100 18 3) 100 16 = nI b := by rw [um_s, pk_un (by decide)]; exact a16
    have b114 : (um (um M' 100 16 (M' 100 17)) 100 18 3) 114 = M 114 := by rw [um_n _ _ _ (by decide)]; exact a114
    have hA1 : Ag [100] M (um M' 100 16 (M' 100 17)) := hA.ua (by decide) _
    have hf1 : ∀ j, ¬ (16 ≤ j ∧ j ≤ 20) → (um M' 100 16 (M' 100 17)) 100 j = M 100 j := fun j hj => by rw [um_s, pk_un (by omega)]; exact hf j hj
    have sgn : clS (M 114) n b = 3 → vp_in (nI b) 96 ∧ ∀ M5 : Mem, M5 = um (um (um M' 100 16 (M' 100 17)) 100 18 3) 100 20 (M 114 (ix (nI b))) → R none (um M5 100 17 ((M5 100 17) + 1)) := by
      intro c3
      have ek : kiS (M 114) n e k b = 3 := by unfold kiS; rw [if_pos (Or.inr c3)]; exact c3
      have hbn : b < n := by
        rcases Nat.lt_or_ge b n with z | z
        · exact z
        · rw [cl_0.mpr z] at c3; omega
      refine ⟨vpn (by omega) (by decide), fun M5 e5 => ?_⟩
      rw [ix_nI (by omega)] at e5
      have z17 : M5 100 17 = nI b := by rw [e5, um_s, pk_un (by decide), um_s, pk_un (by decide)]; exact a17
      rw [z17, p1]
      refine hR' _ ?_ (fun j hj => ?_) ?_ ?_ ?_ (fun _ => ?_) (fun z => by omega) (fun z => by omega)
      · rw [e5]; exact ((hA1.ua (by decide) _).ua (by decide) _).ua (by decide) _
      · rw [um_s, pk_un (by omega), e5, um_s, pk_un (by omega), um_s, pk_un (by omega)]; exact hf1 j hj
      · rw [um_s, pk_un (by decide), e5, um_s, pk_un (by decide)]; exact b16
      · rw [um_s, pk_us, en4 c3]
      · rw [um_s, pk_un (by decide), e5, um_s, pk_un (by decide), um_s, pk_us, ek]; rfl
      · rw [um_s, pk_un (by decide), e5, um_s, pk_us]
    have dgt : clS (M 114) n b = 2 → At l G (d + 4) mX8_nextToken 214 [some (.ref (G.1 100)), some (.int v1), none] [] (um (um M' 100 16 (M' 100 17)) 100 19 0) R := by
      intro c2
      refine at214 c2 v1 hv b sb2 _ (Nat.le_refl _) (hA1.ua (by decide) _) (fun j hj => by rw [um_s, pk_un (by omega)]; exact hf1 j hj) (by rw [um_s, pk_un (by decide)]; exact a16) (by rw [um_s, pk_un (by decide)]; exact a17) ?_ ?_
      · rw [um_s, pk_us, if_pos (by omega), Nat.sub_self]; rfl
      · unfold enS
        rw [c2, if_neg (by decide), if_neg (by decide)]
    have ltr : clS (M 114) n b = 1 → At l G (d + 4) mX8_nextToken 128 [some (.ref (G.1 100)), some (.int v1), none] [] (um M' 100 16 (M' 100 17)) R := by
      intro c1
      refine at128 c1 v1 hv b sb2 _ hA1 hf1 a16 a17 ?_
      unfold enS
      rw [c1, if_neg (by decide), if_neg (by decide)]
    refine bX8_nextToken_89 ?_
    rw [a16, a15, a114, b16, b114]
    rw [show nI b = nI n ↔ b = n from nI_eq (by omega) (by omega), le_nI (by omega) (by omega), ix_nI (show b < 2 ^ 31 by omega)] at *
    refine ⟨fun h => ?_, fun h => ⟨fun h1 => absurd h1 (by omega), fun h1 => ⟨vpn (by omega) (by decide), fun h2 => ⟨fun h3 => ltr (cl_1.mpr ⟨by omega, h2, h3⟩), fun h3 => ⟨fun h4 => absurd h4 h1, fun _ => ⟨vpn (by omega) (by decide), fun h5 => ⟨fun h6 => dgt (cl_2.mpr ⟨by omega, h5, h6⟩), fun h6 => sgn ?_⟩, fun h5 => sgn ?_⟩⟩⟩, fun h2 => ⟨fun h4 => absurd h4 h1, fun _ => ⟨vpn (by omega) (by decide), fun h5 => ⟨fun h6 => dgt (cl_2.mpr ⟨by omega, h5, h6⟩), fun h6 => sgn ?_⟩, fun h5 => sgn ?_⟩⟩⟩⟩⟩
    · have c0 : clS (M 114) n b = 0 := cl_0.mpr (by omega)
      have ek : kiS (M 114) n e k b = 0 := by unfold kiS; rw [if_pos (Or.inl c0)]; exact c0
      refine hR' _ (hA1.ua (by decide) _) (fun j hj => ?_) ?_ ?_ ?_ (fun z => by omega) (fun z => by omega) (fun z => by omega)
      · rw [um_s, pk_un (by omega)]; exact hf1 j hj
      · rw [um_s, pk_un (by decide)]; exact a16
      · rw [um_s, pk_un (by decide), a17]
        unfold enS
        rw [if_pos c0]
      · rw [um_s, pk_us, ek]; rfl
    · unfold clS; rw [if_neg (by omega), if_neg (fun z => h3 z.2), if_neg (fun z => h6 z.2)]
    · unfold clS; rw [if_neg (by omega), if_neg (fun z => h3 z.2), if_neg (fun z => h5 z.1)]
    · unfold clS; rw [if_neg (by omega), if_neg (fun z => h2 z.1), if_neg (fun z => h6 z.2)]
    · unfold clS; rw [if_neg (by omega), if_neg (fun z => h2 z.1), if_neg (fun z => h5 z.1)]
  have at72 : ∀ (v1 : Int32) (M' : Mem), (v1 = 0 ∧ ¬ (k = 1 ∨ k = 2) ∨ v1 = 1 ∧ (k = 1 ∨ k = 2)) → Ag [100] M M' → (∀ j, ¬ (16 ≤ j ∧ j ≤ 20) → M' 100 j = M 100 j) → M' 100 17 = nI b → At l G (d + 4) mX8_nextToken 72 [some (.ref (G.1 100)), some (.int v1), some (.int (nI e))] [] M' R := by
    intro v1 M' hv hA hf g7
    have t6 : nI e = M' 100 17 ↔ e = b := by rw [g7]; exact nI_eq (by omega) (by omega)
    refine bX8_nextToken_72 ⟨fun h => bX8_nextToken_88 (at89 0 M' (Or.inl ⟨rfl, fun z => ?_⟩) hA hf g7), fun h => ⟨fun h2 => at89 1 M' (Or.inr ⟨rfl, ?_, ?_⟩) hA hf g7, fun h2 => bX8_nextToken_88 (at89 0 M' (Or.inl ⟨rfl, fun z => h2 (t6.mpr z.2.symm)⟩) hA hf g7)⟩⟩
    · rcases hv with w | w
      · exact w.2 z.1
      · rw [w.1] at h; exact absurd h (by decide)
    · rcases hv with w | w
      · exact absurd w.1 h
      · exact w.2
    · exact (t6.mp h2).symm
  have at34 : ∀ v1 : Int32, (v1 = 0 ∧ ¬ (k = 1 ∨ k = 2) ∨ v1 = 1 ∧ (k = 1 ∨ k = 2)) → ∀ p, p ≤ n → ∀ M', Ag [100] M M' → (∀ j, ¬ (16 ≤ j ∧ j ≤ 20) → M' 100 j = M 100 j) → M' 100 17 = nI p → skS (M 114) n p = b → At l G (d + 4) mX8_nextToken 34 [some (.ref (G.1 100)), some (.int v1), some (.int (nI e))] [] M' R := by
    intro v1 hv
    refine upL (fun p => ∀ M', Ag [100] M M' → (∀ j, ¬ (16 ≤ j ∧ j ≤ 20) → M' 100 j = M 100 j) → M' 100 17 = nI p → skS (M 114) n p = b → At l G (d + 4) mX8_nextToken 34 [some (.ref (G.1 100)), some (.int v1), some (.int (nI e))] [] M' R) n ?_ ?_
    · intro M' hA hf g7 hs
      have l1 : M' 100 15 = nI n := (hf 15 (by decide)).trans e1
      rw [sk_stop (Or.inl (Nat.le_refl _))] at hs
      refine bX8_nextToken_34 ⟨fun _ => at72 v1 M' hv hA hf (by rw [← hs]; exact g7), fun h => absurd ?_ h⟩
      rw [l1, g7]; exact Int32.le_refl _
    · intro p hp ih M' hA hf g7 hs
      have l1 : M' 100 15 = nI n := (hf 15 (by decide)).trans e1
      have e114 : M' 114 = M 114 := hA 114 (by decide)
      refine bX8_nextToken_34 ⟨fun h => absurd h (by rw [l1, g7, le_nI (by omega) (by omega)]; omega), fun _ => ⟨by rw [g7]; exact vpn (by omega) (by decide), fun h => ?_, fun h => ?_⟩⟩
      · rw [g7, ix_nI (by omega), e114] at h
        rw [g7, p1]
        exact ih _ (hA.ua (by decide) _) (fun j hj => by rw [um_s, pk_un (by omega)]; exact hf j hj) (by rw [um_s, pk_us]) (by rw [← sk_go hp h]; exact hs)
      · rw [g7, ix_nI (by omega), e114] at h
        rw [sk_stop (Or.inr h)] at hs
        exact at72 v1 M' hv hA hf (by rw [← hs]; exact g7)
  have st : ∀ v1 : Int32, (v1 = 0 ∧ ¬ (k = 1 ∨ k = 2) ∨ v1 = 1 ∧ (k = 1 ∨ k = 2)) → At l G (d + 4) mX8_nextToken 28 [some (.ref (G.1 100)), none, none] [.int v1] M R := fun v1 hv => bX8_nextToken_28 (by rw [e7]; exact at34 v1 hv e he M (Ag.rf _ _) (fun _ _ => rfl) e7 hb)
  refine tX8_nextToken ⟨fun h => bX8_nextToken_27 (st 0 (Or.inl ⟨rfl, fun z => ?_⟩)), fun _ => ⟨fun h => bX8_nextToken_23 (st 1 (Or.inr ⟨rfl, hk.mp (Or.inl h)⟩)), fun h => ⟨fun h2 => bX8_nextToken_23 (st 1 (Or.inr ⟨rfl, hk.mp (Or.inr h2)⟩)), fun h2 => bX8_nextToken_27 (st 0 (Or.inl ⟨rfl, fun z => (hk.mpr z).elim h h2⟩))⟩⟩⟩
  rw [e7, show (0 : Int32) = nI 0 from rfl, le_nI (by omega) (by omega)] at h
  have := h0 z
  omega
end
