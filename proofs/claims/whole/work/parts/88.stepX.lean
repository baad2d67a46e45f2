-- the program's next word
def LX (M : Mem) (q : Tk) : Prop := M 21 6 = nI q.1 ∧ M 21 7 = nI q.2.1 ∧ (if q.2.2 = 4 then M 21 8 = 4 ∨ (M 21 8 = 2 ∧ 4 < q.2.1 - q.1) else M 21 8 = nI q.2.2)
section
variable {l : Launch} {G : GT} {D : Nat} {M : Mem} {R : Option Value → Mem → Prop}
theorem sX5_sortAt {p n : Nat} (hD : 4 ≤ D) (hp : p ≤ 96) (hn : n ≤ 96) (e : M 21 1 = nI n) (hR : R (some (.int (nI (clS (M 22) n p)))) M) : Tr l G D mX5_sortAt [.ref (G.1 21), .int (nI p)] M R := by
  obtain ⟨d, rfl⟩ := dE hD
  have key : ∀ c, clS (M 22) n p = c → R (some (.int (nI c))) M := fun c h => by rw [h] at hR; exact hR
  have nlt : ∀ a b : Int32, ¬ a < b ↔ b ≤ a := fun a b => Int32.not_lt
  refine tX5_sortAt ?_
  rw [e, lt_nI (by omega) (by omega), ix_nI (by omega)]
  refine ⟨fun h => ⟨vpn (by omega) (by decide), fun h1 => ⟨fun h2 => key 3 ?_, fun h2 => ⟨fun h3 => key 3 ?_, fun h3 => key 2 ?_⟩⟩, fun h1 => ⟨fun h4 => ⟨fun h2 => key 3 ?_, fun h2 => ⟨fun h3 => key 3 ?_, fun h3 => key 2 ?_⟩⟩, fun h4 => key 1 ?_⟩⟩, fun h => key 0 (cl_0.mpr (by omega))⟩
  · unfold clS; rw [if_neg (by omega), if_neg (fun q => Int32.not_le.mpr h1 q.1), if_neg (fun q => Int32.not_le.mpr h2 q.1)]
  · unfold clS; rw [if_neg (by omega), if_neg (fun q => Int32.not_le.mpr h1 q.1), if_neg (fun q => Int32.not_le.mpr h3 q.2)]
  · exact cl_2.mpr ⟨h, Int32.not_lt.mp h2, Int32.not_lt.mp h3⟩
  · unfold clS; rw [if_neg (by omega), if_neg (fun q => Int32.not_le.mpr h4 q.2), if_neg (fun q => Int32.not_le.mpr h2 q.1)]
  · unfold clS; rw [if_neg (by omega), if_neg (fun q => Int32.not_le.mpr h4 q.2), if_neg (fun q => Int32.not_le.mpr h3 q.2)]
  · exact cl_2.mpr ⟨h, Int32.not_lt.mp h2, Int32.not_lt.mp h3⟩
  · exact cl_1.mpr ⟨h, Int32.not_lt.mp h1, Int32.not_lt.mp h4⟩
theorem sX5_step {n : Nat} {q : Tk} (hD : 8 ≤ D) (hn : n ≤ 96) (e1 : M 21 1 = nI n) (e7 : M 21 7 = nI q.2.1) (he : q.2.1 ≤ n) (hk : (M 21 8 = 1 ∨ M 21 8 = 2) ↔ (q.2.2 = 1 ∨ q.2.2 = 2)) (hR : ∀ M', Ag [21] M M' → (∀ j, j ≠ 6 → j ≠ 7 → j ≠ 8 → M' 21 j = M 21 j) → LX M' (nxS (M 22) n q) → R none M') : Tr l G D mX5_step [.ref (G.1 21)] M R := by
  obtain ⟨d, rfl⟩ := dE (show 4 ≤ D by omega)
  obtain ⟨b0, e, k⟩ := q
  replace e7 : M 21 7 = nI e := e7
  replace he : e ≤ n := he
  replace hk : (M 21 8 = 1 ∨ M 21 8 = 2) ↔ (k = 1 ∨ k = 2) := hk
  obtain ⟨sb1, sb2⟩ := sk_in (t := M 22) he
  obtain ⟨en1, en2, en3, en4, en5⟩ := en_in (t := M 22) sb2
  have hc3 := cl_le (M 22) n (skS (M 22) n e)
  -- what the last step leaves
  have lx0 : ∀ M' : Mem, M' 21 6 = nI (skS (M 22) n e) → M' 21 7 = nI (enS (M 22) n (skS (M 22) n e)) → M' 21 8 = nI (clS (M 22) n (skS (M 22) n e)) → ¬ ((k = 1 ∨ k = 2) ∧ skS (M 22) n e = e ∧ (clS (M 22) n (skS (M 22) n e) = 1 ∨ clS (M 22) n (skS (M 22) n e) = 2)) → LX M' (nxS (M 22) n (b0, e, k)) := by
    intro M' g6 g7 g8 nt
    refine ⟨g6, g7, ?_⟩
    show if kiS (M 22) n e k (skS (M 22) n e) = 4 then M' 21 8 = 4 ∨ (M' 21 8 = 2 ∧ 4 < enS (M 22) n (skS (M 22) n e) - skS (M 22) n e) else M' 21 8 = nI (kiS (M 22) n e k (skS (M 22) n e))
    rw [g8]
    unfold kiS
    by_cases c03 : clS (M 22) n (skS (M 22) n e) = 0 ∨ clS (M 22) n (skS (M 22) n e) = 3
    · simp only [if_pos c03]
      rw [if_neg (by omega)]
      trivial
    · simp only [if_neg c03]
      have tn : ¬ ((k = 1 ∨ k = 2) ∧ skS (M 22) n e = e) := fun z => nt ⟨z.1, z.2, by omega⟩
      simp only [if_neg tn]
      by_cases c4 : clS (M 22) n (skS (M 22) n e) = 2 ∧ 4 < enS (M 22) n (skS (M 22) n e) - skS (M 22) n e
      · simp only [if_pos c4]
        rw [if_pos trivial, c4.1]
        exact Or.inr ⟨rfl, c4.2⟩
      · simp only [if_neg c4]
        rw [if_neg (by omega)]
        trivial
  have lx4 : ∀ M' : Mem, M' 21 6 = nI (skS (M 22) n e) → M' 21 7 = nI (enS (M 22) n (skS (M 22) n e)) → M' 21 8 = 4 → ((k = 1 ∨ k = 2) ∧ skS (M 22) n e = e ∧ (clS (M 22) n (skS (M 22) n e) = 1 ∨ clS (M 22) n (skS (M 22) n e) = 2)) → LX M' (nxS (M 22) n (b0, e, k)) := by
    intro M' g6 g7 g8 nt
    refine ⟨g6, g7, ?_⟩
    show if kiS (M 22) n e k (skS (M 22) n e) = 4 then M' 21 8 = 4 ∨ (M' 21 8 = 2 ∧ 4 < enS (M 22) n (skS (M 22) n e) - skS (M 22) n e) else M' 21 8 = nI (kiS (M 22) n e k (skS (M 22) n e))
    have e4 : kiS (M 22) n e k (skS (M 22) n e) = 4 := by
      unfold kiS
      rw [if_neg (by omega), if_pos ⟨nt.1, nt.2.1⟩]
    rw [if_pos e4]
    exact Or.inl g8
  have dn : ∀ (v1 : Int32) (M' : Mem), (v1 = 0 ↔ ¬ (k = 1 ∨ k = 2)) → Ag [21] M M' → (∀ j, j ≠ 6 → j ≠ 7 → j ≠ 8 → M' 21 j = M 21 j) → M' 21 6 = nI (skS (M 22) n e) → M' 21 7 = nI (enS (M 22) n (skS (M 22) n e)) → M' 21 8 = nI (clS (M 22) n (skS (M 22) n e)) → (v1 = 0 → R none M') ∧ (¬ (v1 = 0) → ((M' 21 6) = nI e → ((M' 21 8) = 1 → R none (um M' 21 8 4)) ∧ (¬ ((M' 21 8) = 1) → ((M' 21 8) = 2 → R none (um M' 21 8 4)) ∧ (¬ ((M' 21 8) = 2) → R none M'))) ∧ (¬ ((M' 21 6) = nI e) → R none M')) := by
    intro v1 M' hv hA hf g6 g7 g8
    have t1 : M' 21 8 = 1 ↔ clS (M 22) n (skS (M 22) n e) = 1 := by rw [g8]; exact nI_eq (b := 1) (by omega) (by decide)
    have t2 : M' 21 8 = 2 ↔ clS (M 22) n (skS (M 22) n e) = 2 := by rw [g8]; exact nI_eq (b := 2) (by omega) (by decide)
    have t6 : M' 21 6 = nI e ↔ skS (M 22) n e = e := by rw [g6]; exact nI_eq (by omega) (by omega)
    have up : ((k = 1 ∨ k = 2) ∧ skS (M 22) n e = e ∧ (clS (M 22) n (skS (M 22) n e) = 1 ∨ clS (M 22) n (skS (M 22) n e) = 2)) → R none (um M' 21 8 4) := fun z => hR _ (hA.ua (by decide) _) (fun j j6 j7 j8 => by rw [um_s, pk_un j8]; exact hf j j6 j7 j8) (lx4 _ (by rw [um_s, pk_un (by decide)]; exact g6) (by rw [um_s, pk_un (by decide)]; exact g7) (by rw [um_s, pk_us]) z)
    rw [t1, t2, t6]
    refine ⟨fun h => hR M' hA hf (lx0 M' g6 g7 g8 (fun z => hv.mp h z.1)), fun h => ⟨fun h2 => ⟨fun h3 => up ⟨?_, h2, Or.inl h3⟩, fun h3 => ⟨fun h4 => up ⟨?_, h2, Or.inr h4⟩, fun h4 => hR M' hA hf (lx0 M' g6 g7 g8 (fun z => by omega))⟩⟩, fun h2 => hR M' hA hf (lx0 M' g6 g7 g8 (fun z => h2 z.2.1))⟩⟩
    · exact Classical.byContradiction (fun z => h (hv.mpr z))
    · exact Classical.byContradiction (fun z => h (hv.mpr z))
  have at111 : ∀ (v1 : Int32), (v1 = 0 ↔ ¬ (k = 1 ∨ k = 2)) → ∀ p, p ≤ n → ∀ M', Ag [21] M M' → (∀ j, j ≠ 6 → j ≠ 7 → j ≠ 8 → M' 21 j = M 21 j) → M' 21 6 = nI (skS (M 22) n e) → M' 21 7 = nI p → M' 21 8 = nI (clS (M 22) n (skS (M 22) n e)) → (if clS (M 22) n (skS (M 22) n e) = 1 ∨ clS (M 22) n (skS (M 22) n e) = 2 then runS (M 22) n (clS (M 22) n (skS (M 22) n e)) p = enS (M 22) n (skS (M 22) n e) else p = enS (M 22) n (skS (M 22) n e)) → At l G (d + 4) mX5_step 111 [some (.ref (G.1 21)), some (.int v1), some (.int (nI e))] [] M' R := by
    intro v1 hv
    have body : ∀ p M', p ≤ n → Ag [21] M M' → (∀ j, j ≠ 6 → j ≠ 7 → j ≠ 8 → M' 21 j = M 21 j) → M' 21 6 = nI (skS (M 22) n e) → M' 21 7 = nI p → M' 21 8 = nI (clS (M 22) n (skS (M 22) n e)) → (if clS (M 22) n (skS (M 22) n e) = 1 ∨ clS (M 22) n (skS (M 22) n e) = 2 then runS (M 22) n (clS (M 22) n (skS (M 22) n e)) p = enS (M 22) n (skS (M 22) n e) else p = enS (M 22) n (skS (M 22) n e)) → (p < n → (clS (M 22) n (skS (M 22) n e) = 1 ∨ clS (M 22) n (skS (M 22) n e) = 2) → clS (M 22) n p = clS (M 22) n (skS (M 22) n e) → At l G (d + 4) mX5_step 111 [some (.ref (G.1 21)), some (.int v1), some (.int (nI e))] [] (um M' 21 7 (nI (p + 1))) R) → At l G (d + 4) mX5_step 111 [some (.ref (G.1 21)), some (.int v1), some (.int (nI e))] [] M' R := by
      intro p M' hp hA hf g6 g7 g8 hen hgo
      have t1 : M' 21 8 = 1 ↔ clS (M 22) n (skS (M 22) n e) = 1 := by rw [g8]; exact nI_eq (b := 1) (by omega) (by decide)
      have t2 : M' 21 8 = 2 ↔ clS (M 22) n (skS (M 22) n e) = 2 := by rw [g8]; exact nI_eq (b := 2) (by omega) (by decide)
      have l1 : M' 21 1 = nI n := (hf 1 (by decide) (by decide) (by decide)).trans e1
      have e22 : M' 22 = M 22 := hA 22 (by decide)
      have fin : enS (M 22) n (skS (M 22) n e) = p → _ := fun z => dn v1 M' hv hA hf g6 (by rw [z]; exact g7) g8
      have lp : (clS (M 22) n (skS (M 22) n e) = 1 ∨ clS (M 22) n (skS (M 22) n e) = 2) → ((M' 21 1) ≤ (M' 21 7) → (v1 = 0 → R none M') ∧ (¬ (v1 = 0) → ((M' 21 6) = nI e → ((M' 21 8) = 1 → R none (um M' 21 8 4)) ∧ (¬ ((M' 21 8) = 1) → ((M' 21 8) = 2 → R none (um M' 21 8 4)) ∧ (¬ ((M' 21 8) = 2) → R none M'))) ∧ (¬ ((M' 21 6) = nI e) → R none M'))) ∧ (¬ ((M' 21 1) ≤ (M' 21 7)) → Tr l G (d + 3) mX5_sortAt [.ref (G.1 21), .int (M' 21 7)] M' (kI fun q M' => At l G (d + 4) mX5_step 146 [some (.ref (G.1 21)), some (.int v1), some (.int (nI e))] [.int q] M' R)) := by
        intro c12
        rw [if_pos c12] at hen
        rw [l1, g7, le_nI (by omega) (by omega)]
        refine ⟨fun h => fin ?_, fun h => ?_⟩
        · rw [run_stop (by rw [cl_0.mpr h]; omega)] at hen
          exact hen.symm
        · refine sX5_sortAt (by omega) (by omega) hn l1 (kI_i ?_)
          rw [e22]
          have hcp := cl_le (M 22) n p
          have t3 : nI (clS (M 22) n p) = M' 21 8 ↔ clS (M 22) n p = clS (M 22) n (skS (M 22) n e) := by rw [g8]; exact nI_eq (by omega) (by omega)
          refine bX5_step_146 ⟨fun h3 => ?_, fun h3 => fin ?_⟩
          · rw [g7, p1]
            exact hgo (by omega) c12 (t3.mp h3)
          · rw [run_stop (fun z => h3 (t3.mpr z))] at hen
            exact hen.symm
      refine bX5_step_111 ⟨fun h1 => lp (Or.inl (t1.mp h1)), fun h1 => ⟨fun h2 => lp (Or.inr (t2.mp h2)), fun h2 => fin ?_⟩⟩
      rw [if_neg (by rw [t1] at h1; rw [t2] at h2; omega)] at hen
      exact hen.symm
    refine upL (fun p => ∀ M', Ag [21] M M' → (∀ j, j ≠ 6 → j ≠ 7 → j ≠ 8 → M' 21 j = M 21 j) → M' 21 6 = nI (skS (M 22) n e) → M' 21 7 = nI p → M' 21 8 = nI (clS (M 22) n (skS (M 22) n e)) → (if clS (M 22) n (skS (M 22) n e) = 1 ∨ clS (M 22) n (skS (M 22) n e) = 2 then runS (M 22) n (clS (M 22) n (skS (M 22) n e)) p = enS (M 22) n (skS (M 22) n e) else p = enS (M 22) n (skS (M 22) n e)) → At l G (d + 4) mX5_step 111 [some (.ref (G.1 21)), some (.int v1), some (.int (nI e))] [] M' R) n ?_ ?_
    · intro M' hA hf g6 g7 g8 hen
      exact body n M' (Nat.le_refl _) hA hf g6 g7 g8 hen (fun z => absurd z (Nat.lt_irrefl _))
    · intro p hp ih M' hA hf g6 g7 g8 hen
      refine body p M' (by omega) hA hf g6 g7 g8 hen (fun _ c12 z => ih _ (hA.ua (by decide) _) (fun j j6 j7 j8 => by rw [um_s, pk_un j7]; exact hf j j6 j7 j8) (by rw [um_s, pk_un (by decide)]; exact g6) (by rw [um_s, pk_us]) (by rw [um_s, pk_un (by decide)]; exact g8) ?_)
      rw [if_pos c12] at hen ⊢
      rw [← run_go (by omega) z]
      exact hen
  have at90 : ∀ (v1 : Int32), (v1 = 0 ↔ ¬ (k = 1 ∨ k = 2)) → ∀ M', Ag [21] M M' → (∀ j, j ≠ 6 → j ≠ 7 → j ≠ 8 → M' 21 j = M 21 j) → M' 21 6 = nI (skS (M 22) n e) → Tr l G (d + 3) mX5_sortAt [.ref (G.1 21), .int ((um M' 21 7 (M' 21 6)) 21 6)] (um M' 21 7 (M' 21 6)) (kI fun q M' => At l G (d + 4) mX5_step 90 [some (.ref (G.1 21)), some (.int v1), some (.int (nI e))] [.int q, .ref (G.1 21)] M' R) := by
    intro v1 hv M' hA hf g6
    have l1 : M' 21 1 = nI n := (hf 1 (by decide) (by decide) (by decide)).trans e1
    have e22 : M' 22 = M 22 := hA 22 (by decide)
    rw [um_s, pk_un (by decide), g6]
    refine sX5_sortAt (by omega) (by omega) hn (by rw [um_s, pk_un (by decide)]; exact l1) (kI_i ?_)
    rw [um_n _ _ _ (by decide), e22]
    have t3 : nI (clS (M 22) n (skS (M 22) n e)) = 3 ↔ clS (M 22) n (skS (M 22) n e) = 3 := nI_eq (b := 3) (by omega) (by decide)
    have hA2 : Ag [21] M (um (um M' 21 7 (nI (skS (M 22) n e))) 21 8 (nI (clS (M 22) n (skS (M 22) n e)))) := (hA.ua (by decide) _).ua (by decide) _
    have q6 : (um (um M' 21 7 (nI (skS (M 22) n e))) 21 8 (nI (clS (M 22) n (skS (M 22) n e)))) 21 6 = nI (skS (M 22) n e) := by rw [um_s, pk_un (by decide), um_s, pk_un (by decide)]; exact g6
    have q7 : (um (um M' 21 7 (nI (skS (M 22) n e))) 21 8 (nI (clS (M 22) n (skS (M 22) n e)))) 21 7 = nI (skS (M 22) n e) := by rw [um_s, pk_un (by decide), um_s, pk_us]
    have q8 : (um (um M' 21 7 (nI (skS (M 22) n e))) 21 8 (nI (clS (M 22) n (skS (M 22) n e)))) 21 8 = nI (clS (M 22) n (skS (M 22) n e)) := by rw [um_s, pk_us]
    have qf : ∀ j, j ≠ 6 → j ≠ 7 → j ≠ 8 → (um (um M' 21 7 (nI (skS (M 22) n e))) 21 8 (nI (clS (M 22) n (skS (M 22) n e)))) 21 j = M 21 j := fun j j6 j7 j8 => by rw [um_s, pk_un j8, um_s, pk_un j7]; exact hf j j6 j7 j8
    refine bX5_step_90 ⟨fun h => ?_, fun h => ?_⟩
    · rw [q8, t3] at h
      rw [q7, p1]
      refine at111 v1 hv (skS (M 22) n e + 1) (by rw [en4 h] at en2; exact en2) _ (hA2.ua (by decide) _) (fun j j6 j7 j8 => by rw [um_s, pk_un j7]; exact qf j j6 j7 j8) (by rw [um_s, pk_un (by decide)]; exact q6) (by rw [um_s, pk_us]) (by rw [um_s, pk_un (by decide)]; exact q8) ?_
      rw [if_neg (by omega), en4 h]
    · rw [q8, t3] at h
      refine at111 v1 hv (skS (M 22) n e) sb2 _ hA2 qf q6 q7 q8 ?_
      by_cases c0 : clS (M 22) n (skS (M 22) n e) = 0
      · rw [if_neg (by omega)]
        unfold enS
        rw [if_pos c0]
      · rw [if_pos (by omega)]
        unfold enS
        rw [if_neg c0, if_neg h]
  have at35 : ∀ (v1 : Int32), (v1 = 0 ↔ ¬ (k = 1 ∨ k = 2)) → ∀ p, p ≤ n → ∀ M', Ag [21] M M' → (∀ j, j ≠ 6 → j ≠ 7 → j ≠ 8 → M' 21 j = M 21 j) → M' 21 6 = nI p → skS (M 22) n p = skS (M 22) n e → At l G (d + 4) mX5_step 35 [some (.ref (G.1 21)), some (.int v1), some (.int (nI e))] [] M' R := by
    intro v1 hv
    refine upL (fun p => ∀ M', Ag [21] M M' → (∀ j, j ≠ 6 → j ≠ 7 → j ≠ 8 → M' 21 j = M 21 j) → M' 21 6 = nI p → skS (M 22) n p = skS (M 22) n e → At l G (d + 4) mX5_step 35 [some (.ref (G.1 21)), some (.int v1), some (.int (nI e))] [] M' R) n ?_ ?_
    · intro M' hA hf g6 hs
      have l1 : M' 21 1 = nI n := (hf 1 (by decide) (by decide) (by decide)).trans e1
      rw [sk_stop (Or.inl (Nat.le_refl _))] at hs
      refine bX5_step_35 ⟨fun _ => at90 v1 hv M' hA hf (by rw [← hs]; exact g6), fun h => absurd ?_ h⟩
      rw [l1, g6]; exact Int32.le_refl _
    · intro p hp ih M' hA hf g6 hs
      have l1 : M' 21 1 = nI n := (hf 1 (by decide) (by decide) (by decide)).trans e1
      have e22 : M' 22 = M 22 := hA 22 (by decide)
      refine bX5_step_35 ⟨fun h => absurd h (by rw [l1, g6, le_nI (by omega) (by omega)]; omega), fun _ => ⟨by rw [g6]; exact vpn (by omega) (by decide), fun h => ?_, fun h => ?_⟩⟩
      · rw [g6, ix_nI (by omega), e22] at h
        rw [g6, p1]
        exact ih _ (hA.ua (by decide) _) (fun j j6 j7 j8 => by rw [um_s, pk_un j6]; exact hf j j6 j7 j8) (by rw [um_s, pk_us]) (by rw [← sk_go hp h]; exact hs)
      · rw [g6, ix_nI (by omega), e22] at h
        rw [sk_stop (Or.inr h)] at hs
        exact at90 v1 hv M' hA hf (by rw [← hs]; exact g6)
  refine tX5_step ?_
  rw [e7]
  have st : ∀ v1 : Int32, (v1 = 0 ↔ ¬ (k = 1 ∨ k = 2)) → At l G (d + 4) mX5_step 35 [some (.ref (G.1 21)), some (.int v1), some (.int (nI e))] [] (um M 21 6 (nI e)) R := fun v1 hv => at35 v1 hv e he _ ((Ag.rf _ M).ua (by decide) _) (fun j j6 j7 j8 => by rw [um_s, pk_un j6]) (by rw [um_s, pk_us]) rfl
  exact ⟨fun h => st 1 ⟨fun z => absurd z (by decide), fun z => absurd (hk.mp (Or.inl h)) z⟩, fun h => ⟨fun h2 => st 1 ⟨fun z => absurd z (by decide), fun z => absurd (hk.mp (Or.inr h2)) z⟩, fun h2 => st 0 ⟨fun _ z => (hk.mpr z).elim h h2, fun _ => rfl⟩⟩⟩
end
