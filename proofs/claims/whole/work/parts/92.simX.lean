-- the program's reading is the reading told
section
variable {l : Launch} {G : GT} {n : Nat} {t : Nat → Int32} {key : Int32}
theorem nar_b (b : Bool) : narrow .boolean (.int (if b = true then 1 else 0)) = .int (if b = true then 1 else 0) := by cases b <;> rfl
theorem bl_0 {b : Bool} : (if b = true then (1 : Int32) else 0) = 0 ↔ ¬ b = true := by cases b <;> decide
def SXl (l : Launch) (G : GT) (t : Nat → Int32) (n : Nat) (key : Int32) (f : Nat) : Prop := ∀ (r pa no : Nat) (σ : PSt) (M : Mem) (D : Nat) (R : Option Value → Mem → Prop), r ≤ 5 → pa ≤ 8 → no ≤ 8 → 12 * (n - σ.1.1) + (6 - r) ≤ f → 12 + 12 * (8 - pa) + 2 * (8 - no) + 2 * (6 - r) ≤ D → QI t n σ.1 → σ.2.1 ≤ σ.1.1 → XP t n key M σ → PX t n key M (PR t n key f r pa no σ) R → Tr l G D mX5_part [.ref (G.1 21), .int (nI r), .int (nI pa), .int (nI no)] M R
def SXp (l : Launch) (G : GT) (t : Nat → Int32) (n : Nat) (key : Int32) (f : Nat) : Prop := ∀ (pa no : Nat) (σ : PSt) (M : Mem) (D : Nat) (R : Option Value → Mem → Prop), pa ≤ 8 → no ≤ 8 → 12 * (n - σ.1.1) + 1 ≤ f → 13 + 12 * (8 - pa) + 2 * (8 - no) ≤ D → QI t n σ.1 → σ.2.1 ≤ σ.1.1 → XP t n key M σ → PX t n key M (PR t n key f 5 pa no σ) R → Tr l G D mX5_piece [.ref (G.1 21), .int (nI pa), .int (nI no)] M R
def SXo (l : Launch) (G : GT) (t : Nat → Int32) (n : Nat) (key : Int32) (f : Nat) : Prop := ∀ (r pa no : Nat) (σ : PSt) (M : Mem) (d : Nat) (R : Option Value → Mem → Prop) (i : Nat), r ≤ 4 → pa ≤ 8 → no ≤ 8 → 12 * (n - σ.1.1) + 7 ≤ f → 12 + 12 * (8 - pa) + 2 * (8 - no) + 2 * (6 - r) ≤ d + 5 → QI t n σ.1 → σ.2.1 ≤ σ.1.1 → i ≤ σ.1.1 → XP t n key M σ → PX t n key M (PR t n key f (r + 6) pa no σ) R → At l G (d + 4) mX5_chain 17 [some (.ref (G.1 21)), some (.int (nI r)), some (.int (nI pa)), some (.int (nI no)), some (.int (nI i)), none] [] M R
theorem sim_p (hn : n ≤ 96) (hkey : key = 0 ∨ key = 1 ∨ key = 2) {f : Nat} (hl : SXl l G t n key f) : SXp l G t n key (f + 1) := by
  intro pa no σ M D R hpa hno hf hD hQ hm hX hR
  obtain ⟨d, rfl⟩ := dE (show 4 ≤ D by omega)
  have hkk := hX.k hQ
  have hX' := hX
  obtain ⟨a1, a2, ⟨a3, a4, a5⟩, a6, a7, a8, a9⟩ := hX
  rw [pr_P] at hR
  have hbe := hQ.1
  have hen := hQ.2.1
  -- refused where it stands
  have no0 : PX t n key M (false, σ) R → R (some (.int 0)) M := fun h => h.no (Ag.rf _ _) a3 ⟨σ.2.1, by omega, a6⟩
  unfold PP at hR
  -- an operand
  have op : (M 21 8 = 1 ∨ M 21 8 = 2) → Tr l G (d + 3) mX5_operand [.ref (G.1 21)] M (kI fun q M' => At l G (d + 4) mX5_piece 20 [none, none, none, none] [.int q] M' R) := by
    intro h12
    obtain ⟨d2, ed⟩ := dE (show 4 ≤ d + 3 by omega)
    rw [ed]
    have good : ∀ w v : Int32, σ.1.2.2 ≠ 4 → σ.1.2.2 ≠ 0 → PX t n key M (true, avS t n (sdS (ptS w v σ))) R → ¬ encS w v = (-1000000005) → ∀ pc, (∀ r : Int32, (r = (-1000000005) → (kI fun q M' => At l G (d + 4) mX5_piece 20 [none, none, none, none] [.int q] M' R) (some (.int 0)) M) ∧ (¬ (r = (-1000000005)) → Tr l G (d2 + 3) mX5_put [.ref (G.1 21), .int r] M (kV fun M' => At l G (d2 + 4) mX5_operand 33 [some (.ref (G.1 21)), none] [] M' (kI fun q M' => At l G (d + 4) mX5_piece 20 [none, none, none, none] [.int q] M' R))) → At l G (d2 + 4) mX5_operand pc [some (.ref (G.1 21)), none] [.int r] M (kI fun q M' => At l G (d + 4) mX5_piece 20 [none, none, none, none] [.int q] M' R)) → At l G (d2 + 4) mX5_operand pc [some (.ref (G.1 21)), none] [.int (encS w v)] M (kI fun q M' => At l G (d + 4) mX5_piece 20 [none, none, none, none] [.int q] M' R) := by
      intro w v hk4 hk0 hR hne pc hpc
      have hlt := hQ.2.2.2.1 hk0
      refine hpc _ ⟨fun z => absurd z hne, fun _ => sX5_put (by omega) (m := σ.2.1) (by omega) a6 (kV_i (bX5_operand_33 ?_))⟩
      have hX1 := hX'.pt w v
      have hX2 := hX1.sd
      have e4 : (um (um M 23 σ.2.1 (encS w v)) 21 3 (nI (σ.2.1 + 1))) 21 4 = nI σ.2.2.2.2 := hX1.2.2.2.2.2.1
      rw [e4, p1]
      refine sX5_stepP (σ := sdS (ptS w v σ)) (by omega) hn hX2 hQ hk4 (fun M' hA hX3 => kV_i (bX5_operand_47 (kI_i (bX5_piece_20 ⟨rfl, ?_⟩))))
      refine hR.ok ?_ hX3
      refine Ag.tr ?_ (hA.sub (by decide))
      exact (((Ag.rf _ M).ua (by decide) _).ua (by decide) _).ua (by decide) _
    refine tX5_operand ⟨fun h2 => ?_, fun h2 => ?_⟩
    · refine sX5_numberRead (by omega) hn hX' hQ (kI_i ?_)
      rcases hkk.2.2.1.mp h2 with k2 | ⟨-, k4, hlong⟩
      · rw [if_pos k2] at hR
        obtain ⟨q1, q2⟩ := hQ.2.2.2.2.2.1 k2
        rw [if_pos q1]
        obtain ⟨x, hx, ex⟩ := nv_is (t := t) (b := σ.1.1) (n := n) (σ.1.2.1 - σ.1.1) q1 (fun j hj => q2 _ (by omega) (by omega))
        have hx2 : x < 10000 := Nat.lt_of_lt_of_le hx (Nat.le_trans (Nat.pow_le_pow_right (by decide) q1) (by decide))
        have ee : encS 0 (nvS t σ.1.1 (σ.1.2.1 - σ.1.1)) = nvS t σ.1.1 (σ.1.2.1 - σ.1.1) := rfl
        have := good 0 (nvS t σ.1.1 (σ.1.2.1 - σ.1.1)) (by omega) (by omega) hR (by rw [ee, ex]; intro z; rw [teq, tnI (by omega)] at z; have : (-1000000005 : Int32).toInt = -1000000005 := rfl; omega) 12 (fun r h => bX5_operand_12 h)
        rw [ee] at this
        exact this
      · rw [if_neg (by omega), if_neg (by omega), if_neg (by omega), if_neg (by omega)] at hR
        rw [if_neg (by omega)]
        exact bX5_operand_12 ⟨fun _ => kI_i (bX5_piece_20 ⟨rfl, no0 hR⟩), fun z => absurd rfl z⟩
    · have k1 : σ.1.2.2 = 1 := hkk.1.mp (h12.resolve_right h2)
      refine sX5_nameRead (by omega) hn hkey hX' hQ k1 (kI_i ?_)
      rw [if_neg (by omega)] at hR
      by_cases c : σ.1.2.1 - σ.1.1 = 1 ∧ nmB key (t σ.1.1) = true
      · rw [if_pos ⟨k1, c⟩] at hR
        rw [if_pos c]
        have ee : encS 1 (t σ.1.1) = 10000 + nmI (t σ.1.1) := rfl
        have hne : ∀ c : Int32, ¬ 10000 + nmI c = (-1000000005) := fun c => by unfold nmI; split <;> (try split) <;> decide
        have := good 1 (t σ.1.1) (by omega) (by omega) hR (by rw [ee]; exact hne _) 19 (fun r h => bX5_operand_19 h)
        rw [ee] at this
        exact this
      · rw [if_neg (fun z => c z.2), if_neg (by omega), if_neg (by omega)] at hR
        rw [if_neg c]
        exact bX5_operand_19 ⟨fun _ => kI_i (bX5_piece_20 ⟨rfl, no0 hR⟩), fun z => absurd rfl z⟩
  refine tX5_piece ⟨fun h => op (Or.inr h), fun n2 => ⟨fun h => op (Or.inl h), fun n1 => ⟨fun h3 => ?_, fun n3 => ?_⟩⟩⟩
  · have k3 : σ.1.2.2 = 3 := hkk.2.1.mp h3
    rw [if_neg (by omega), if_neg (by omega)] at hR
    have hlt := hQ.2.2.2.1 (by omega)
    have hb1 := hQ.2.2.2.2.1 k3
    obtain ⟨gq1, gq2⟩ := ad_b hQ (show σ.1.2.2 ≠ 0 by omega)
    have gm : (avS t n σ).2.1 ≤ (avS t n σ).1.1 := by show σ.2.1 ≤ _; omega
    have gle : (avS t n σ).1.1 ≤ n := Nat.le_trans gq1.1 gq1.2.1
    have s8n : (8 : Int32) ≤ nI no ↔ 8 ≤ no := le_nI (a := 8) (by decide) (by omega)
    have s8p : (8 : Int32) ≤ nI pa ↔ 8 ≤ pa := le_nI (a := 8) (by decide) (by omega)
    rw [a3, a2, ix_nI (by omega), s8n, s8p]
    have vb : vp_in (nI σ.1.1) 96 := vpn (by omega) (by decide)
    have paren : ¬ (t σ.1.1 = 33 ∧ no < 8) → vp_in (nI σ.1.1) 96 ∧ (t σ.1.1 = 40 → (8 ≤ pa → R (some (.int 0)) M) ∧ (¬ (8 ≤ pa) → Tr l G (d + 3) mX5_step [.ref (G.1 21)] M (kV fun M' => At l G (d + 4) mX5_piece 98 [some (.ref (G.1 21)), some (.int (nI pa)), some (.int (nI no)), none] [] M' R))) ∧ (¬ (t σ.1.1 = 40) → R (some (.int 0)) M) := by
      intro h33
      rw [if_neg (fun z => h33 z.2)] at hR
      refine ⟨vb, fun h40 => ⟨fun h8 => ?_, fun h8 => ?_⟩, fun h40 => ?_⟩
      · rw [if_neg (fun z => by omega)] at hR; exact no0 hR
      · rw [if_pos ⟨k3, h40, by omega⟩] at hR
        refine sX5_stepP (by omega) hn hX' hQ (by omega) (fun M1 hA1 hX1 => kV_i (bX5_piece_98 ?_))
        have hA1' : Ag [21, 23] M M1 := hA1.sub (by decide)
        rw [p1]
        have hG := pr_G t n key f 0 (pa + 1) no _ gq1
        refine hl 0 (pa + 1) no _ M1 (d + 3) _ (by omega) (by omega) hno (by omega) (by omega) gq1 gm hX1 ?_
        intro M2 hA2 g1 g2
        refine kI_i (bX5_piece_107 ⟨fun z => ?_, fun z => ?_⟩)
        · rw [bl_0] at z
          rw [if_neg (fun w => z w.1)] at hR
          exact hR.no (hA1'.tr hA2) (g2 z).1 (g2 z).2
        · rw [bl_0, Classical.not_not] at z
          have hX2 := g1 z
          have hk2 := hX2.k hG.1
          have cl := hG.1
          have no2 : PX t n key M (false, (PR t n key f 0 (pa + 1) no (avS t n σ)).2) R → R (some (.int 0)) M2 := fun h => h.no (hA1'.tr hA2) hX2.2.2.1.1 ⟨_, by have := hG.2.2.1; have gm2 : (avS t n σ).2.1 ≤ (avS t n σ).1.1 := gm; have := cl.1; have := cl.2.1; omega, hX2.2.2.2.1⟩
          refine ⟨fun h3' => ?_, fun h3' => ?_⟩
          · have k3' := hk2.2.1.mp h3'
            have lt2 := cl.2.2.2.1 (by omega)
            have le2 := cl.2.1
            rw [hX2.2.2.1.1, hX2.2.1, ix_nI (by omega)]
            refine ⟨vpn (by omega) (by decide), fun h41 => ?_, fun h41 => ?_⟩
            · rw [if_pos ⟨z, k3', h41⟩] at hR
              refine sX5_stepP (by omega) hn hX2 cl (by omega) (fun M3 hA3 hX3 => kV_i (bX5_piece_138 ?_))
              exact hR.ok ((hA1'.tr hA2).tr (hA3.sub (by decide))) hX3
            · rw [if_neg (fun w => h41 w.2.2)] at hR
              exact no2 hR
          · rw [if_neg (fun w => h3' (hk2.2.1.mpr w.2.1))] at hR
            exact no2 hR
      · rw [if_neg (fun z => h40 z.2.1)] at hR; exact no0 hR
    refine ⟨vb, fun h33 => ⟨fun h8 => paren (fun z => by omega), fun h8 => ?_⟩, fun h33 => paren (fun z => h33 z.1)⟩
    rw [if_pos ⟨k3, h33, by omega⟩] at hR
    refine sX5_stepP (by omega) hn hX' hQ (by omega) (fun M1 hA1 hX1 => kV_i (bX5_piece_55 ?_))
    have hA1' : Ag [21, 23] M M1 := hA1.sub (by decide)
    rw [p1]
    have hG := pr_G t n key f 5 pa (no + 1) _ gq1
    refine hl 5 pa (no + 1) _ M1 (d + 3) _ (Nat.le_refl 5) hpa (by omega) (by omega) (by omega) gq1 gm hX1 ?_
    intro M2 hA2 g1 g2
    refine kI_i (bX5_piece_64 ?_)
    by_cases z : (PR t n key f 5 pa (no + 1) (avS t n σ)).1 = true
    · have hX2 := g1 z
      rw [if_pos z] at hR ⊢
      have a4' := hG.2.2.2.1 z (by omega)
      have a3' : (PR t n key f 5 pa (no + 1) (avS t n σ)).2.2.1 + (avS t n σ).1.1 ≤ σ.2.1 + (PR t n key f 5 pa (no + 1) (avS t n σ)).2.1.1 := hG.2.2.1
      have b1' := hG.1.1
      have b2' := hG.1.2.1
      refine sX5_put (by omega) (m := (PR t n key f 5 pa (no + 1) (avS t n σ)).2.2.1) (by omega) hX2.2.2.2.1 (kV_i (bX5_piece_72 ⟨rfl, ?_⟩))
      exact hR.ok (((hA1'.tr hA2).ua (by decide) _).ua (by decide) _) (hX2.pt 2 33)
    · obtain ⟨z6, m2, hm2, z3⟩ := g2 z
      rw [if_neg z] at hR ⊢
      refine sX5_putF (by omega) hm2 z3 (fun M3 hA3 e6 e3 => kV_i (bX5_piece_72 ⟨rfl, ?_⟩))
      exact hR.no ((hA1'.tr hA2).tr hA3) (e6.trans z6) e3
  · rw [if_neg (fun z => n2 (hkk.2.2.1.mpr (Or.inl z))), if_neg (fun z => n1 (hkk.1.mpr z.1)), if_neg (fun z => n3 (hkk.2.1.mpr z.1)), if_neg (fun z => n3 (hkk.2.1.mpr z.1))] at hR
    exact no0 hR
theorem sim_o (hn : n ≤ 96) {f : Nat} (hl : SXl l G t n key f) (ho : SXo l G t n key f) : SXo l G t n key (f + 1) := by
  intro r pa no σ M d R i hr hpa hno hf hD hQ hm hi hX hR
  have hkk := hX.k hQ
  have hX' := hX
  obtain ⟨a1, a2, ⟨a3, a4, a5⟩, a6, a7, a8, a9⟩ := hX
  rw [pr_O] at hR
  unfold PO at hR
  have hbe := hQ.1
  have hen := hQ.2.1
  refine bX5_chain_17 ⟨fun h => ?_, fun h => ⟨fun h3 => ?_, fun h3 => ?_⟩⟩
  · rw [a1, le_nI (by omega) (by omega)] at h
    rw [if_neg (fun z => by have := hQ.2.2.2.1 (show σ.1.2.2 ≠ 0 by omega); omega)] at hR
    exact hR.ok (Ag.rf _ _) hX'
  · have k3 := hkk.2.1.mp h3
    have hlt := hQ.2.2.2.1 (show σ.1.2.2 ≠ 0 by omega)
    obtain ⟨gq1, gq2⟩ := ad_b hQ (show σ.1.2.2 ≠ 0 by omega)
    have gm : (avS t n σ).2.1 ≤ (avS t n σ).1.1 := by show σ.2.1 ≤ _; omega
    have gle : (avS t n σ).1.1 ≤ n := Nat.le_trans gq1.1 gq1.2.1
    have vb : vp_in (nI σ.1.1) 96 := vpn (by omega) (by decide)
    rw [a3, a2, ix_nI (by omega)]
    refine ⟨vb, sX5_joins (by omega) hr (kI_i (bX5_chain_47 ⟨fun z => ?_, fun z => ?_⟩))⟩
    · rw [bl_0] at z
      rw [if_neg (fun w => z w.2)] at hR
      exact hR.ok (Ag.rf _ _) hX'
    · rw [bl_0, Classical.not_not] at z
      rw [if_pos ⟨k3, z⟩] at hR
      rw [a3, a2, ix_nI (by omega)]
      refine ⟨vb, sX5_stepP (by omega) hn hX' hQ (by omega) (fun M1 hA1 hX1 => kV_i (bX5_chain_65 ?_))⟩
      have hA1' : Ag [21, 23] M M1 := hA1.sub (by decide)
      rw [p1]
      have hG := pr_G t n key f (r + 1) pa no _ gq1
      refine hl (r + 1) pa no _ M1 (d + 3) _ (by omega) hpa hno (by omega) (by omega) gq1 gm hX1 ?_
      intro M2 hA2 g1 g2
      refine kI_i (bX5_chain_74 ⟨fun y => ?_, fun y => ?_⟩)
      · rw [bl_0] at y
        rw [if_neg y] at hR
        exact hR.no (hA1'.tr hA2) (g2 y).1 (g2 y).2
      · rw [bl_0, Classical.not_not] at y
        rw [if_pos y] at hR
        have hX2 := g1 y
        have a4' := hG.2.2.2.1 y (by omega)
        have a3' : (PR t n key f (r + 1) pa no (avS t n σ)).2.2.1 + (avS t n σ).1.1 ≤ σ.2.1 + (PR t n key f (r + 1) pa no (avS t n σ)).2.1.1 := hG.2.2.1
        have b1' := hG.1.1
        have b2' := hG.1.2.1
        have hX3 := hX2.pt 2 (t σ.1.1)
        have hA3 : Ag [21, 23] M (um (um M2 23 (PR t n key f (r + 1) pa no (avS t n σ)).2.2.1 (encS 2 (t σ.1.1))) 21 3 (nI ((PR t n key f (r + 1) pa no (avS t n σ)).2.2.1 + 1))) := ((hA1'.tr hA2).ua (by decide) _).ua (by decide) _
        have s2 : nI r = 2 ↔ r = 2 := nI_eq (b := 2) (by omega) (by decide)
        refine sX5_put (by omega) (m := (PR t n key f (r + 1) pa no (avS t n σ)).2.2.1) (by omega) hX2.2.2.2.1 (kV_i (bX5_chain_89 ?_))
        rw [s2, p1]
        refine ⟨fun r2 => ?_, fun r2 => ?_⟩
        · rw [if_pos r2] at hR
          exact hR.ok hA3 hX3
        · rw [if_neg r2] at hR
          have ea : 12 * (n - (PR t n key f (r + 1) pa no (avS t n σ)).2.1.1) + 7 ≤ f := by omega
          exact ho r pa no (ptS 2 (t σ.1.1) (PR t n key f (r + 1) pa no (avS t n σ)).2) _ d R (i + 1) hr hpa hno ea hD hG.1 (show (PR t n key f (r + 1) pa no (avS t n σ)).2.2.1 + 1 ≤ (PR t n key f (r + 1) pa no (avS t n σ)).2.1.1 by omega) (show i + 1 ≤ (PR t n key f (r + 1) pa no (avS t n σ)).2.1.1 by omega) hX3 (hR.tr hA3)
  · rw [if_neg (fun z => h3 (hkk.2.1.mpr z.1))] at hR
    exact hR.ok (Ag.rf _ _) hX'
theorem px_12 {pr : Bool × PSt} {M : Mem} {d : Nat} {R : Option Value → Mem → Prop} (hR : PX t n key M pr R) : PX t n key M pr (kI fun q M' => At l G (d + 4) mX5_part 12 [none, none, none, none] [.int q] M' R) := fun M2 hA g1 g2 => kI_i (bX5_part_12 ⟨nar_b _, hR M2 hA g1 g2⟩)
theorem sim_l {f : Nat} (hl : SXl l G t n key f) (hp : SXp l G t n key (f + 1)) (ho : SXo l G t n key f) : SXl l G t n key (f + 1) := by
  intro r pa no σ M D R hr hpa hno hf hD hQ hm hX hR
  obtain ⟨d, rfl⟩ := dE (show 4 ≤ D by omega)
  have s5 : (5 : Int32) ≤ nI r ↔ 5 ≤ r := le_nI (a := 5) (by decide) (by omega)
  refine tX5_part ?_
  rw [s5]
  refine ⟨fun h5 => ?_, fun h5 => ?_⟩
  · have e5 : r = 5 := by omega
    subst e5
    refine hp pa no σ M (d + 3) _ hpa hno (by omega) (by omega) hQ hm hX ?_
    intro M2 hA2 g1 g2
    exact kI_i (bX5_part_21 ⟨nar_b _, hR M2 hA2 g1 g2⟩)
  · have h5 : r < 5 := by omega
    obtain ⟨d2, ed⟩ := dE (show 4 ≤ d + 3 by omega)
    rw [ed]
    refine tX5_chain ?_
    rw [p1]
    rw [pr_L h5] at hR
    unfold PL at hR
    have hG := pr_G t n key f (r + 1) pa no _ hQ
    refine hl (r + 1) pa no σ M (d2 + 3) _ (by omega) hpa hno (by omega) (by omega) hQ hm hX ?_
    intro M2 hA2 g1 g2
    refine kI_i (bX5_chain_9 ⟨fun y => ?_, fun y => ?_⟩)
    · rw [bl_0] at y
      rw [if_neg y] at hR
      exact (px_12 hR).no hA2 (g2 y).1 (g2 y).2
    · rw [bl_0, Classical.not_not] at y
      rw [if_pos y] at hR
      have a4' := hG.2.2.2.1 y (by omega)
      have a3' := hG.2.2.1
      have b1' := hG.1.1
      have b2' := hG.1.2.1
      exact ho r pa no _ M2 d2 _ 0 (by omega) hpa hno (by omega) (by omega) hG.1 (by omega) (Nat.zero_le _) (g1 y) (px_12 (hR.tr hA2))
theorem sim_X (hn : n ≤ 96) (hkey : key = 0 ∨ key = 1 ∨ key = 2) : ∀ f, SXl l G t n key f ∧ SXp l G t n key f ∧ SXo l G t n key f
  | 0 => ⟨fun r pa no σ M D R hr hpa hno hf => by omega, fun pa no σ M D R hpa hno hf => by omega, fun r pa no σ M d R i hr hpa hno hf => by omega⟩
  | f + 1 => by
    obtain ⟨hl, hp, ho⟩ := sim_X hn hkey f
    have hp' := sim_p hn hkey hl
    exact ⟨sim_l hl hp' ho, hp', sim_o hn hl ho⟩
end
