-- the reference's reading is the reading told
def mLv : Nat → MT
  | 0 => mX8_either
  | 1 => mX8_both
  | 2 => mX8_test
  | 3 => mX8_sum
  | 4 => mX8_term
  | _ => mX8_part0
section
variable {l : Launch} {G : GT} {n A : Nat} {t : Nat → Int32} {key : Int32}
def LpM (l : Launch) (G : GT) (d : Nat) (key : Int32) (M : Mem) (R : Option Value → Mem → Prop) : Nat → Prop
  | 0 => At l G (d + 4) mX8_either 10 [some (.ref (G.1 100)), some (.int key)] [] M R
  | 1 => At l G (d + 4) mX8_both 10 [some (.ref (G.1 100)), some (.int key)] [] M R
  | 2 => At l G (d + 4) mX8_test 5 [some (.ref (G.1 100)), some (.int key), none] [.int 1] M R
  | 3 => At l G (d + 4) mX8_sum 10 [some (.ref (G.1 100)), some (.int key), none] [] M R
  | _ => At l G (d + 4) mX8_term 10 [some (.ref (G.1 100)), some (.int key), none] [] M R
def SMl (l : Launch) (G : GT) (t : Nat → Int32) (n A : Nat) (key : Int32) (f : Nat) : Prop := ∀ (r pa no : Nat) (σ : PSt) (M : Mem) (D : Nat) (R : Option Value → Mem → Prop), r ≤ 5 → pa ≤ 8 → no ≤ 8 → 12 * (n - σ.1.1) + (6 - r) ≤ f → 12 + 7 * (8 - pa) + (8 - no) + (6 - r) ≤ D → QI t n σ.1 → σ.2.1 ≤ σ.1.1 → MP t n A pa no M σ → PM t n A pa no M (PR t n key f r pa no σ) R → Tr l G D (mLv r) [.ref (G.1 100), .int key] M R
def SMo (l : Launch) (G : GT) (t : Nat → Int32) (n A : Nat) (key : Int32) (f : Nat) : Prop := ∀ (r pa no : Nat) (σ : PSt) (M : Mem) (d : Nat) (R : Option Value → Mem → Prop), r ≤ 4 → pa ≤ 8 → no ≤ 8 → 12 * (n - σ.1.1) + 7 ≤ f → 12 + 7 * (8 - pa) + (8 - no) + (6 - r) ≤ d + 4 → QI t n σ.1 → σ.2.1 ≤ σ.1.1 → MP t n A pa no M σ → PM t n A pa no M (PR t n key f (r + 6) pa no σ) R → LpM l G d key M R r
theorem simo_0 (hn : n ≤ 96) (hA : A ≤ 2884) {f : Nat} (hl : SMl l G t n A key f) (ho : SMo l G t n A key f) {pa no : Nat} {σ : PSt} {M : Mem} {d : Nat} {R : Option Value → Mem → Prop} (hpa : pa ≤ 8) (hno : no ≤ 8) (hf : 12 * (n - σ.1.1) + 7 ≤ f + 1) (hD : 12 + 7 * (8 - pa) + (8 - no) + (6 - 0) ≤ d + 4) (hQ : QI t n σ.1) (hm : σ.2.1 ≤ σ.1.1) (hX : MP t n A pa no M σ) (hR : PM t n A pa no M (PR t n key (f + 1) (0 + 6) pa no σ) R) : LpM l G d key M R 0 := by
  have hk := hX.k hQ
  have h20 := hX.2.2.1.2.2.2.1
  rw [pr_O] at hR
  unfold PO at hR
  have hbe := hQ.1
  have hen := hQ.2.1
  have no0 : ¬ (σ.1.2.2 = 3 ∧ jnB 0 (t σ.1.1) = true) → R (some (.int 1)) M := fun z => by
    rw [if_neg z] at hR
    exact hR.ok (FM.rf _ _) hX
  have yes : σ.1.2.2 = 3 → jnB 0 (M 100 20) = true → Tr l G (d + 3) mX8_nextToken [.ref (G.1 100)] M (kV fun M' => At l G (d + 4) mX8_either 23 [some (.ref (G.1 100)), some (.int key)] [] M' R) := by
    intro k3 js
    have e20 := h20 k3
    rw [e20] at js
    rw [if_pos ⟨k3, js⟩] at hR
    have hlt := hQ.2.2.2.1 (show σ.1.2.2 ≠ 0 by omega)
    obtain ⟨gq1, gq2⟩ := ad_b hQ (show σ.1.2.2 ≠ 0 by omega)
    have gm : (avS t n σ).2.1 ≤ (avS t n σ).1.1 := by show σ.2.1 ≤ _; omega
    have gle : (avS t n σ).1.1 ≤ n := Nat.le_trans gq1.1 gq1.2.1
    refine sX8_nextP (by omega) hn hX hQ (fun M1 hA1 hX1 => kV_i (bX8_either_23 ?_))
    have hG := pr_G t n key f (0 + 1) pa no _ gq1
    refine hl (0 + 1) pa no _ M1 (d + 3) _ (by omega) hpa hno (by omega) (by omega) gq1 gm hX1 ?_
    intro M2 hA2 g1 g2
    refine kI_i (bX8_either_28 ⟨fun y => ?_, fun y => ?_⟩)
    · rw [bl_0] at y
      rw [if_neg y] at hR
      exact hR.fl (hA1.tr hA2) (g2 y)
    · rw [bl_0, Classical.not_not] at y
      rw [if_pos y] at hR
      have hX2 := g1 y
      have a4' := hG.2.2.2.1 y (by omega)
      have a3' : (PR t n key f (0 + 1) pa no (avS t n σ)).2.2.1 + (avS t n σ).1.1 ≤ σ.2.1 + (PR t n key f (0 + 1) pa no (avS t n σ)).2.1.1 := hG.2.2.1
      have b1' := hG.1.1
      have b2' := hG.1.2.1
      have hm2 : (PR t n key f (0 + 1) pa no (avS t n σ)).2.2.1 < 96 := by omega
      have ec : t σ.1.1 = 124 := by simpa [jnB] using js
      rw [ec] at hR
      rw [if_neg (by decide)] at hR
      refine put_blk (K := fun X => At l G (d + 4) mX8_either 10 [some (.ref (G.1 100)), some (.int key)] [] X R) hX2 hm2 hA ?_
      have ea : 12 * (n - (PR t n key f (0 + 1) pa no (avS t n σ)).2.1.1) + 7 ≤ f := by omega
      exact ho 0 pa no (ptS 2 124 (PR t n key f (0 + 1) pa no (avS t n σ)).2) _ d R (by omega) hpa hno ea hD hG.1 (show (PR t n key f (0 + 1) pa no (avS t n σ)).2.2.1 + 1 ≤ (PR t n key f (0 + 1) pa no (avS t n σ)).2.1.1 by omega) (hX2.pt _ _) (hR.tr ((hA1.tr hA2).pt hm2 _ _))
  exact bX8_either_10 ⟨fun k3 => ⟨fun s124 => yes (hk.2.2.2.mp k3) (by rw [s124]; rfl), fun s124 => no0 (fun z => by have z2 := z.2; rw [← h20 z.1] at z2; simp [jnB, s124] at z2)⟩, fun k3 => no0 (fun z => k3 (hk.2.2.2.mpr z.1))⟩
theorem simo_1 (hn : n ≤ 96) (hA : A ≤ 2884) {f : Nat} (hl : SMl l G t n A key f) (ho : SMo l G t n A key f) {pa no : Nat} {σ : PSt} {M : Mem} {d : Nat} {R : Option Value → Mem → Prop} (hpa : pa ≤ 8) (hno : no ≤ 8) (hf : 12 * (n - σ.1.1) + 7 ≤ f + 1) (hD : 12 + 7 * (8 - pa) + (8 - no) + (6 - 1) ≤ d + 4) (hQ : QI t n σ.1) (hm : σ.2.1 ≤ σ.1.1) (hX : MP t n A pa no M σ) (hR : PM t n A pa no M (PR t n key (f + 1) (1 + 6) pa no σ) R) : LpM l G d key M R 1 := by
  have hk := hX.k hQ
  have h20 := hX.2.2.1.2.2.2.1
  rw [pr_O] at hR
  unfold PO at hR
  have hbe := hQ.1
  have hen := hQ.2.1
  have no0 : ¬ (σ.1.2.2 = 3 ∧ jnB 1 (t σ.1.1) = true) → R (some (.int 1)) M := fun z => by
    rw [if_neg z] at hR
    exact hR.ok (FM.rf _ _) hX
  have yes : σ.1.2.2 = 3 → jnB 1 (M 100 20) = true → Tr l G (d + 3) mX8_nextToken [.ref (G.1 100)] M (kV fun M' => At l G (d + 4) mX8_both 23 [some (.ref (G.1 100)), some (.int key)] [] M' R) := by
    intro k3 js
    have e20 := h20 k3
    rw [e20] at js
    rw [if_pos ⟨k3, js⟩] at hR
    have hlt := hQ.2.2.2.1 (show σ.1.2.2 ≠ 0 by omega)
    obtain ⟨gq1, gq2⟩ := ad_b hQ (show σ.1.2.2 ≠ 0 by omega)
    have gm : (avS t n σ).2.1 ≤ (avS t n σ).1.1 := by show σ.2.1 ≤ _; omega
    have gle : (avS t n σ).1.1 ≤ n := Nat.le_trans gq1.1 gq1.2.1
    refine sX8_nextP (by omega) hn hX hQ (fun M1 hA1 hX1 => kV_i (bX8_both_23 ?_))
    have hG := pr_G t n key f (1 + 1) pa no _ gq1
    refine hl (1 + 1) pa no _ M1 (d + 3) _ (by omega) hpa hno (by omega) (by omega) gq1 gm hX1 ?_
    intro M2 hA2 g1 g2
    refine kI_i (bX8_both_28 ⟨fun y => ?_, fun y => ?_⟩)
    · rw [bl_0] at y
      rw [if_neg y] at hR
      exact hR.fl (hA1.tr hA2) (g2 y)
    · rw [bl_0, Classical.not_not] at y
      rw [if_pos y] at hR
      have hX2 := g1 y
      have a4' := hG.2.2.2.1 y (by omega)
      have a3' : (PR t n key f (1 + 1) pa no (avS t n σ)).2.2.1 + (avS t n σ).1.1 ≤ σ.2.1 + (PR t n key f (1 + 1) pa no (avS t n σ)).2.1.1 := hG.2.2.1
      have b1' := hG.1.1
      have b2' := hG.1.2.1
      have hm2 : (PR t n key f (1 + 1) pa no (avS t n σ)).2.2.1 < 96 := by omega
      have ec : t σ.1.1 = 38 := by simpa [jnB] using js
      rw [ec] at hR
      rw [if_neg (by decide)] at hR
      refine put_blk (K := fun X => At l G (d + 4) mX8_both 10 [some (.ref (G.1 100)), some (.int key)] [] X R) hX2 hm2 hA ?_
      have ea : 12 * (n - (PR t n key f (1 + 1) pa no (avS t n σ)).2.1.1) + 7 ≤ f := by omega
      exact ho 1 pa no (ptS 2 38 (PR t n key f (1 + 1) pa no (avS t n σ)).2) _ d R (by omega) hpa hno ea hD hG.1 (show (PR t n key f (1 + 1) pa no (avS t n σ)).2.2.1 + 1 ≤ (PR t n key f (1 + 1) pa no (avS t n σ)).2.1.1 by omega) (hX2.pt _ _) (hR.tr ((hA1.tr hA2).pt hm2 _ _))
  exact bX8_both_10 ⟨fun k3 => ⟨fun s38 => yes (hk.2.2.2.mp k3) (by rw [s38]; rfl), fun s38 => no0 (fun z => by have z2 := z.2; rw [← h20 z.1] at z2; simp [jnB, s38] at z2)⟩, fun k3 => no0 (fun z => k3 (hk.2.2.2.mpr z.1))⟩
theorem simo_2 (hn : n ≤ 96) (hA : A ≤ 2884) {f : Nat} (hl : SMl l G t n A key f) {pa no : Nat} {σ : PSt} {M : Mem} {d : Nat} {R : Option Value → Mem → Prop} (hpa : pa ≤ 8) (hno : no ≤ 8) (hf : 12 * (n - σ.1.1) + 7 ≤ f + 1) (hD : 12 + 7 * (8 - pa) + (8 - no) + (6 - 2) ≤ d + 4) (hQ : QI t n σ.1) (hm : σ.2.1 ≤ σ.1.1) (hX : MP t n A pa no M σ) (hR : PM t n A pa no M (PR t n key (f + 1) (2 + 6) pa no σ) R) : LpM l G d key M R 2 := by
  have hk := hX.k hQ
  have h20 := hX.2.2.1.2.2.2.1
  rw [pr_O] at hR
  unfold PO at hR
  have hbe := hQ.1
  have hen := hQ.2.1
  have no0 : ¬ (σ.1.2.2 = 3 ∧ jnB 2 (t σ.1.1) = true) → R (some (.int 1)) M := fun z => by
    rw [if_neg z] at hR
    exact hR.ok (FM.rf _ _) hX
  have yes : σ.1.2.2 = 3 → jnB 2 (M 100 20) = true → Tr l G (d + 3) mX8_nextToken [.ref (G.1 100)] M (kV fun M' => At l G (d + 4) mX8_test 46 [some (.ref (G.1 100)), some (.int key), some (.int (M 100 20))] [] M' R) := by
    intro k3 js
    have e20 := h20 k3
    rw [e20] at js ⊢
    rw [if_pos ⟨k3, js⟩] at hR
    have hlt := hQ.2.2.2.1 (show σ.1.2.2 ≠ 0 by omega)
    obtain ⟨gq1, gq2⟩ := ad_b hQ (show σ.1.2.2 ≠ 0 by omega)
    have gm : (avS t n σ).2.1 ≤ (avS t n σ).1.1 := by show σ.2.1 ≤ _; omega
    have gle : (avS t n σ).1.1 ≤ n := Nat.le_trans gq1.1 gq1.2.1
    refine sX8_nextP (by omega) hn hX hQ (fun M1 hA1 hX1 => kV_i (bX8_test_46 ?_))
    have hG := pr_G t n key f (2 + 1) pa no _ gq1
    refine hl (2 + 1) pa no _ M1 (d + 3) _ (by omega) hpa hno (by omega) (by omega) gq1 gm hX1 ?_
    intro M2 hA2 g1 g2
    refine kI_i (bX8_test_51 ⟨fun y => ?_, fun y => ?_⟩)
    · rw [bl_0] at y
      rw [if_neg y] at hR
      exact hR.fl (hA1.tr hA2) (g2 y)
    · rw [bl_0, Classical.not_not] at y
      rw [if_pos y] at hR
      have hX2 := g1 y
      have a4' := hG.2.2.2.1 y (by omega)
      have a3' : (PR t n key f (2 + 1) pa no (avS t n σ)).2.2.1 + (avS t n σ).1.1 ≤ σ.2.1 + (PR t n key f (2 + 1) pa no (avS t n σ)).2.1.1 := hG.2.2.1
      have b1' := hG.1.1
      have b2' := hG.1.2.1
      have hm2 : (PR t n key f (2 + 1) pa no (avS t n σ)).2.2.1 < 96 := by omega
      rw [if_pos rfl] at hR
      exact put_blk (K := fun X => R (some (.int 1)) X) hX2 hm2 hA (hR.ok ((hA1.tr hA2).pt hm2 _ _) (hX2.pt _ _))
  exact bX8_test_5 ⟨fun h => absurd h (by decide), fun _ => ⟨fun k3 => ⟨fun s60 => yes (hk.2.2.2.mp k3) (by rw [s60]; rfl), fun s60 => ⟨fun k3 => ⟨fun s61 => yes (hk.2.2.2.mp k3) (by rw [s61]; rfl), fun s61 => ⟨fun k3 => ⟨fun s62 => yes (hk.2.2.2.mp k3) (by rw [s62]; rfl), fun s62 => no0 (fun z => by have z2 := z.2; rw [← h20 z.1] at z2; simp [jnB, s60, s61, s62] at z2)⟩, fun k3 => no0 (fun z => k3 (hk.2.2.2.mpr z.1))⟩⟩, fun k3 => ⟨fun k3x => absurd k3x k3, fun _ => no0 (fun z => k3 (hk.2.2.2.mpr z.1))⟩⟩⟩, fun k3 => ⟨fun k3x => absurd k3x k3, fun _ => ⟨fun k3x => absurd k3x k3, fun _ => no0 (fun z => k3 (hk.2.2.2.mpr z.1))⟩⟩⟩⟩
theorem simo_3 (hn : n ≤ 96) (hA : A ≤ 2884) {f : Nat} (hl : SMl l G t n A key f) (ho : SMo l G t n A key f) {pa no : Nat} {σ : PSt} {M : Mem} {d : Nat} {R : Option Value → Mem → Prop} (hpa : pa ≤ 8) (hno : no ≤ 8) (hf : 12 * (n - σ.1.1) + 7 ≤ f + 1) (hD : 12 + 7 * (8 - pa) + (8 - no) + (6 - 3) ≤ d + 4) (hQ : QI t n σ.1) (hm : σ.2.1 ≤ σ.1.1) (hX : MP t n A pa no M σ) (hR : PM t n A pa no M (PR t n key (f + 1) (3 + 6) pa no σ) R) : LpM l G d key M R 3 := by
  have hk := hX.k hQ
  have h20 := hX.2.2.1.2.2.2.1
  rw [pr_O] at hR
  unfold PO at hR
  have hbe := hQ.1
  have hen := hQ.2.1
  have no0 : ¬ (σ.1.2.2 = 3 ∧ jnB 3 (t σ.1.1) = true) → R (some (.int 1)) M := fun z => by
    rw [if_neg z] at hR
    exact hR.ok (FM.rf _ _) hX
  have yes : σ.1.2.2 = 3 → jnB 3 (M 100 20) = true → Tr l G (d + 3) mX8_nextToken [.ref (G.1 100)] M (kV fun M' => At l G (d + 4) mX8_sum 37 [some (.ref (G.1 100)), some (.int key), some (.int (M 100 20))] [] M' R) := by
    intro k3 js
    have e20 := h20 k3
    rw [e20] at js ⊢
    rw [if_pos ⟨k3, js⟩] at hR
    have hlt := hQ.2.2.2.1 (show σ.1.2.2 ≠ 0 by omega)
    obtain ⟨gq1, gq2⟩ := ad_b hQ (show σ.1.2.2 ≠ 0 by omega)
    have gm : (avS t n σ).2.1 ≤ (avS t n σ).1.1 := by show σ.2.1 ≤ _; omega
    have gle : (avS t n σ).1.1 ≤ n := Nat.le_trans gq1.1 gq1.2.1
    refine sX8_nextP (by omega) hn hX hQ (fun M1 hA1 hX1 => kV_i (bX8_sum_37 ?_))
    have hG := pr_G t n key f (3 + 1) pa no _ gq1
    refine hl (3 + 1) pa no _ M1 (d + 3) _ (by omega) hpa hno (by omega) (by omega) gq1 gm hX1 ?_
    intro M2 hA2 g1 g2
    refine kI_i (bX8_sum_42 ⟨fun y => ?_, fun y => ?_⟩)
    · rw [bl_0] at y
      rw [if_neg y] at hR
      exact hR.fl (hA1.tr hA2) (g2 y)
    · rw [bl_0, Classical.not_not] at y
      rw [if_pos y] at hR
      have hX2 := g1 y
      have a4' := hG.2.2.2.1 y (by omega)
      have a3' : (PR t n key f (3 + 1) pa no (avS t n σ)).2.2.1 + (avS t n σ).1.1 ≤ σ.2.1 + (PR t n key f (3 + 1) pa no (avS t n σ)).2.1.1 := hG.2.2.1
      have b1' := hG.1.1
      have b2' := hG.1.2.1
      have hm2 : (PR t n key f (3 + 1) pa no (avS t n σ)).2.2.1 < 96 := by omega
      rw [if_neg (by decide)] at hR
      refine put_blk (K := fun X => At l G (d + 4) mX8_sum 10 [some (.ref (G.1 100)), some (.int key), none] [] X R) hX2 hm2 hA ?_
      have ea : 12 * (n - (PR t n key f (3 + 1) pa no (avS t n σ)).2.1.1) + 7 ≤ f := by omega
      exact ho 3 pa no (ptS 2 (t σ.1.1) (PR t n key f (3 + 1) pa no (avS t n σ)).2) _ d R (by omega) hpa hno ea hD hG.1 (show (PR t n key f (3 + 1) pa no (avS t n σ)).2.2.1 + 1 ≤ (PR t n key f (3 + 1) pa no (avS t n σ)).2.1.1 by omega) (hX2.pt _ _) (hR.tr ((hA1.tr hA2).pt hm2 _ _))
  exact bX8_sum_10 ⟨fun k3 => ⟨fun s43 => yes (hk.2.2.2.mp k3) (by rw [s43]; rfl), fun s43 => ⟨fun k3 => ⟨fun s45 => yes (hk.2.2.2.mp k3) (by rw [s45]; rfl), fun s45 => no0 (fun z => by have z2 := z.2; rw [← h20 z.1] at z2; simp [jnB, s43, s45] at z2)⟩, fun k3 => no0 (fun z => k3 (hk.2.2.2.mpr z.1))⟩⟩, fun k3 => ⟨fun k3x => absurd k3x k3, fun _ => no0 (fun z => k3 (hk.2.2.2.mpr z.1))⟩⟩
theorem simo_4 (hn : n ≤ 96) (hA : A ≤ 2884) {f : Nat} (hl : SMl l G t n A key f) (ho : SMo l G t n A key f) {pa no : Nat} {σ : PSt} {M : Mem} {d : Nat} {R : Option Value → Mem → Prop} (hpa : pa ≤ 8) (hno : no ≤ 8) (hf : 12 * (n - σ.1.1) + 7 ≤ f + 1) (hD : 12 + 7 * (8 - pa) + (8 - no) + (6 - 4) ≤ d + 4) (hQ : QI t n σ.1) (hm : σ.2.1 ≤ σ.1.1) (hX : MP t n A pa no M σ) (hR : PM t n A pa no M (PR t n key (f + 1) (4 + 6) pa no σ) R) : LpM l G d key M R 4 := by
  have hk := hX.k hQ
  have h20 := hX.2.2.1.2.2.2.1
  rw [pr_O] at hR
  unfold PO at hR
  have hbe := hQ.1
  have hen := hQ.2.1
  have no0 : ¬ (σ.1.2.2 = 3 ∧ jnB 4 (t σ.1.1) = true) → R (some (.int 1)) M := fun z => by
    rw [if_neg z] at hR
    exact hR.ok (FM.rf _ _) hX
  have yes : σ.1.2.2 = 3 → jnB 4 (M 100 20) = true → Tr l G (d + 3) mX8_nextToken [.ref (G.1 100)] M (kV fun M' => At l G (d + 4) mX8_term 37 [some (.ref (G.1 100)), some (.int key), some (.int (M 100 20))] [] M' R) := by
    intro k3 js
    have e20 := h20 k3
    rw [e20] at js ⊢
    rw [if_pos ⟨k3, js⟩] at hR
    have hlt := hQ.2.2.2.1 (show σ.1.2.2 ≠ 0 by omega)
    obtain ⟨gq1, gq2⟩ := ad_b hQ (show σ.1.2.2 ≠ 0 by omega)
    have gm : (avS t n σ).2.1 ≤ (avS t n σ).1.1 := by show σ.2.1 ≤ _; omega
    have gle : (avS t n σ).1.1 ≤ n := Nat.le_trans gq1.1 gq1.2.1
    refine sX8_nextP (by omega) hn hX hQ (fun M1 hA1 hX1 => kV_i (bX8_term_37 ?_))
    have hG := pr_G t n key f (4 + 1) pa no _ gq1
    refine hl (4 + 1) pa no _ M1 (d + 3) _ (by omega) hpa hno (by omega) (by omega) gq1 gm hX1 ?_
    intro M2 hA2 g1 g2
    refine kI_i (bX8_term_42 ⟨fun y => ?_, fun y => ?_⟩)
    · rw [bl_0] at y
      rw [if_neg y] at hR
      exact hR.fl (hA1.tr hA2) (g2 y)
    · rw [bl_0, Classical.not_not] at y
      rw [if_pos y] at hR
      have hX2 := g1 y
      have a4' := hG.2.2.2.1 y (by omega)
      have a3' : (PR t n key f (4 + 1) pa no (avS t n σ)).2.2.1 + (avS t n σ).1.1 ≤ σ.2.1 + (PR t n key f (4 + 1) pa no (avS t n σ)).2.1.1 := hG.2.2.1
      have b1' := hG.1.1
      have b2' := hG.1.2.1
      have hm2 : (PR t n key f (4 + 1) pa no (avS t n σ)).2.2.1 < 96 := by omega
      rw [if_neg (by decide)] at hR
      refine put_blk (K := fun X => At l G (d + 4) mX8_term 10 [some (.ref (G.1 100)), some (.int key), none] [] X R) hX2 hm2 hA ?_
      have ea : 12 * (n - (PR t n key f (4 + 1) pa no (avS t n σ)).2.1.1) + 7 ≤ f := by omega
      exact ho 4 pa no (ptS 2 (t σ.1.1) (PR t n key f (4 + 1) pa no (avS t n σ)).2) _ d R (by omega) hpa hno ea hD hG.1 (show (PR t n key f (4 + 1) pa no (avS t n σ)).2.2.1 + 1 ≤ (PR t n key f (4 + 1) pa no (avS t n σ)).2.1.1 by omega) (hX2.pt _ _) (hR.tr ((hA1.tr hA2).pt hm2 _ _))
  exact bX8_term_10 ⟨fun k3 => ⟨fun s42 => yes (hk.2.2.2.mp k3) (by rw [s42]; rfl), fun s42 => ⟨fun k3 => ⟨fun s47 => yes (hk.2.2.2.mp k3) (by rw [s47]; rfl), fun s47 => no0 (fun z => by have z2 := z.2; rw [← h20 z.1] at z2; simp [jnB, s42, s47] at z2)⟩, fun k3 => no0 (fun z => k3 (hk.2.2.2.mpr z.1))⟩⟩, fun k3 => ⟨fun k3x => absurd k3x k3, fun _ => no0 (fun z => k3 (hk.2.2.2.mpr z.1))⟩⟩
theorem simp_M (hn : n ≤ 96) (hA : A ≤ 2884) (hkey : key = 0 ∨ key = 1 ∨ key = 2) {f : Nat} (hl : SMl l G t n A key f) {pa no : Nat} {σ : PSt} {M : Mem} {D : Nat} {R : Option Value → Mem → Prop} (hpa : pa ≤ 8) (hno : no ≤ 8) (hf : 12 * (n - σ.1.1) + 1 ≤ f + 1) (hD : 12 + 7 * (8 - pa) + (8 - no) + 1 ≤ D) (hQ : QI t n σ.1) (hm : σ.2.1 ≤ σ.1.1) (hX : MP t n A pa no M σ) (hR : PM t n A pa no M (PR t n key (f + 1) 5 pa no σ) R) : Tr l G D mX8_part0 [.ref (G.1 100), .int key] M R := by
  obtain ⟨d, rfl⟩ := dE (show 4 ≤ D by omega)
  have hk := hX.k hQ
  obtain ⟨b16, b17, b18, h20, h20w, h19⟩ := hX.2.2.1
  rw [pr_P] at hR
  unfold PP at hR
  have hbe := hQ.1
  have hen := hQ.2.1
  have fl0 : PM t n A pa no M (false, σ) R → R (some (.int 0)) M := fun h => h.fl (FM.rf _ _) b16
  have op : ∀ (w v : Int32) (pc : Nat), σ.1.2.2 ≠ 0 → PM t n A pa no M (true, avS t n (sdS (ptS w v σ))) R → (∀ M', R (some (.int 1)) M' → At l G (d + 4) mX8_part0 pc [none, none] [] M' R) → (∀ M7 : Mem, M7 = um (um (um (um M 101 (A + 2 * σ.2.1) w) 101 (A + 2 * σ.2.1 + 1) v) 100 23 (nI (σ.2.1 + 1))) 100 25 (((um (um (um M 101 (A + 2 * σ.2.1) w) 101 (A + 2 * σ.2.1 + 1) v) 100 23 (nI (σ.2.1 + 1))) 100 25) + 1) → Tr l G (d + 3) mX8_nextToken [.ref (G.1 100)] M7 (kV fun M' => At l G (d + 4) mX8_part0 pc [none, none] [] M' R)) := by
    intro w v pc hk0 hR hb M7 e7
    have hlt := hQ.2.2.2.1 hk0
    have hm2 : σ.2.1 < 96 := by omega
    have hX1 := hX.pt w v
    have e25 : (um (um (um M 101 (A + 2 * σ.2.1) w) 101 (A + 2 * σ.2.1 + 1) v) 100 23 (nI (σ.2.1 + 1))) 100 25 = nI σ.2.2.2.2 := hX1.2.2.2.2.2.2.2.2
    rw [e25, p1] at e7
    rw [e7]
    refine sX8_nextP (σ := sdS (ptS w v σ)) (by omega) hn hX1.sd hQ (fun M1 hA1 hX2 => kV_i (hb M1 ?_))
    exact hR.ok ((((FM.rf A M).pt hm2 w v).f (by decide) _).tr hA1) hX2
  have at145 : ¬ (σ.1.2.2 = 2) → ¬ (σ.1.2.2 = 1 ∧ σ.1.2.1 - σ.1.1 = 1 ∧ nmB key (t σ.1.1) = true) → ¬ (σ.1.2.2 = 3 ∧ t σ.1.1 = 33 ∧ no < 8) → At l G (d + 4) mX8_part0 145 [some (.ref (G.1 100)), some (.int key)] [] M R := by
    intro c2 c1 c3
    rw [if_neg c2, if_neg c1, if_neg c3] at hR
    have s8 : M 100 21 = 8 ↔ pa = 8 := by rw [hX.2.2.2.1]; exact nI_eq (b := 8) (by omega) (by decide)
    refine bX8_part0_145 ⟨fun k3 => ⟨fun h40 => ?_, fun h40 => ?_⟩, fun k3 => ?_⟩
    · have k3 := hk.2.2.2.mp k3
      rw [h20 k3] at h40
      rw [s8]
      refine ⟨fun h8 => ?_, fun h8 => ?_⟩
      · rw [if_neg (fun z => by omega)] at hR; exact fl0 hR
      · rw [if_pos ⟨k3, h40, by omega⟩] at hR
        have hlt := hQ.2.2.2.1 (show σ.1.2.2 ≠ 0 by omega)
        obtain ⟨gq1, gq2⟩ := ad_b hQ (show σ.1.2.2 ≠ 0 by omega)
        have gm : (avS t n σ).2.1 ≤ (avS t n σ).1.1 := by show σ.2.1 ≤ _; omega
        have gle : (avS t n σ).1.1 ≤ n := Nat.le_trans gq1.1 gq1.2.1
        rw [hX.2.2.2.1, p1]
        refine sX8_nextP (by omega) hn (hX.p (pa + 1)) hQ (fun M1 hA1 hX1 => kV_i (bX8_part0_179 ?_))
        have hA1' : FM A M M1 := ((FM.rf A M).f (by decide) _).tr hA1
        have hG := pr_G t n key f 0 (pa + 1) no _ gq1
        refine hl 0 (pa + 1) no _ M1 (d + 3) _ (by omega) (by omega) hno (by omega) (by omega) gq1 gm hX1 ?_
        intro M2 hA2 g1 g2
        refine kI_i (bX8_part0_184 ⟨fun z => ?_, fun z => ?_⟩)
        · rw [bl_0] at z
          rw [if_neg (fun w => z w.1)] at hR
          exact hR.fl (hA1'.tr hA2) (g2 z)
        · rw [bl_0, Classical.not_not] at z
          have hX2 := g1 z
          have hk2 := hX2.k hG.1
          have fl2 : PM t n A pa no M (false, (PR t n key f 0 (pa + 1) no (avS t n σ)).2) R → R (some (.int 0)) M2 := fun h => h.fl (hA1'.tr hA2) hX2.2.2.1.1
          refine ⟨fun h3' => ?_, fun h3' => ?_⟩
          · have k3' := hk2.2.2.2.mp h3'
            rw [hX2.2.2.1.2.2.2.1 k3']
            refine ⟨fun h41 => ?_, fun h41 => ?_⟩
            · rw [if_pos ⟨z, k3', h41⟩] at hR
              rw [hX2.2.2.2.1, show (nI (pa + 1) : Int32) - 1 = nI pa from by rw [show (1 : Int32) = nI 1 from rfl, sub_i (by omega) (by omega), Nat.add_sub_cancel]]
              refine sX8_nextP (by omega) hn (hX2.p pa) hG.1 (fun M3 hA3 hX3 => kV_i (bX8_part0_212 ?_))
              exact hR.ok (((hA1'.tr hA2).f (by decide) _).tr hA3) hX3
            · rw [if_neg (fun w => h41 w.2.2)] at hR
              exact fl2 hR
          · rw [if_neg (fun w => h3' (hk2.2.2.2.mpr w.2.1))] at hR
            exact fl2 hR
    · rw [if_neg (fun z => h40 (by rw [h20 z.1]; exact z.2.1))] at hR; exact fl0 hR
    · rw [if_neg (fun z => k3 (hk.2.2.2.mpr z.1))] at hR; exact fl0 hR
  have at84 : ¬ (σ.1.2.2 = 2) → ¬ (σ.1.2.2 = 1 ∧ σ.1.2.1 - σ.1.1 = 1 ∧ nmB key (t σ.1.1) = true) → At l G (d + 4) mX8_part0 84 [some (.ref (G.1 100)), some (.int key)] [] M R := by
    intro c2 c1
    have s8 : (8 : Int32) ≤ M 100 22 ↔ 8 ≤ no := by rw [hX.2.2.2.2.1]; exact le_nI (a := 8) (by decide) (by omega)
    refine bX8_part0_84 ⟨fun k3 => ⟨fun h33 => ?_, fun h33 => at145 c2 c1 (fun z => h33 (by rw [h20 z.1]; exact z.2.1))⟩, fun k3 => at145 c2 c1 (fun z => k3 (hk.2.2.2.mpr z.1))⟩
    have k3 := hk.2.2.2.mp k3
    rw [h20 k3] at h33
    rw [s8]
    refine ⟨fun h8 => at145 c2 c1 (fun z => by omega), fun h8 => ?_⟩
    rw [if_neg c2, if_neg c1, if_pos ⟨k3, h33, by omega⟩] at hR
    have hlt := hQ.2.2.2.1 (show σ.1.2.2 ≠ 0 by omega)
    obtain ⟨gq1, gq2⟩ := ad_b hQ (show σ.1.2.2 ≠ 0 by omega)
    have gm : (avS t n σ).2.1 ≤ (avS t n σ).1.1 := by show σ.2.1 ≤ _; omega
    have gle : (avS t n σ).1.1 ≤ n := Nat.le_trans gq1.1 gq1.2.1
    rw [hX.2.2.2.2.1, p1]
    refine sX8_nextP (by omega) hn (hX.o (no + 1)) hQ (fun M1 hA1 hX1 => kV_i (bX8_part0_116 ?_))
    have hA1' : FM A M M1 := ((FM.rf A M).f (by decide) _).tr hA1
    have hG := pr_G t n key f 5 pa (no + 1) _ gq1
    refine hl 5 pa (no + 1) _ M1 (d + 3) _ (by omega) hpa (by omega) (by omega) (by omega) gq1 gm hX1 ?_
    intro M2 hA2 g1 g2
    refine kI_i (bX8_part0_121 ⟨fun z => ?_, fun z => ?_⟩)
    · rw [bl_0] at z
      rw [if_neg z] at hR
      exact hR.fl (hA1'.tr hA2) (g2 z)
    · rw [bl_0, Classical.not_not] at z
      rw [if_pos z] at hR
      have a4' := hG.2.2.2.1 z (by omega)
      have a3' : (PR t n key f 5 pa (no + 1) (avS t n σ)).2.2.1 + (avS t n σ).1.1 ≤ σ.2.1 + (PR t n key f 5 pa (no + 1) (avS t n σ)).2.1.1 := hG.2.2.1
      have b1' := hG.1.1
      have b2' := hG.1.2.1
      have hm2 : (PR t n key f 5 pa (no + 1) (avS t n σ)).2.2.1 < 96 := by omega
      have hX2 := g1 z
      rw [hX2.2.2.2.2.1, show (nI (no + 1) : Int32) - 1 = nI no from by rw [show (1 : Int32) = nI 1 from rfl, sub_i (by omega) (by omega), Nat.add_sub_cancel]]
      have hX3 := hX2.o no
      have blk := put_blk (w := 2) (v := 33) (K := fun X => R (some (.int 1)) X) hX3 hm2 hA (hR.ok (((hA1'.tr hA2).f (by decide) _).pt hm2 _ _) (hX3.pt _ _))
      obtain ⟨v1, v2, k2⟩ := blk
      refine ⟨v1, fun M3 e3 => ?_⟩
      rw [← e3] at v2 k2
      exact ⟨v2, fun M5 e5 => by
        have := k2 _ rfl
        rw [e5]
        exact this⟩
  refine tX8_part0 ⟨fun k2 => ?_, fun k2 => ⟨fun k1 => ⟨fun z0 => ?_, fun z0 => ?_⟩, fun k1 => at84 (fun z => k2 (hk.2.2.1.mpr z)) (fun z => k1 (hk.2.1.mpr z.1))⟩⟩
  · have k2 := hk.2.2.1.mp k2
    rw [if_pos k2] at hR
    have hlt := hQ.2.2.2.1 (show σ.1.2.2 ≠ 0 by omega)
    rw [h19 k2]
    exact put_blk (K := fun X => ∀ M7 : Mem, M7 = um X 100 25 ((X 100 25) + 1) → Tr l G (d + 3) mX8_nextToken [.ref (G.1 100)] M7 (kV fun M' => At l G (d + 4) mX8_part0 31 [none, none] [] M' R)) hX (by omega) hA (op 0 _ 31 (by omega) hR (fun M' h => bX8_part0_31 h))
  · have k1 := hk.2.1.mp k1
    rw [h20w k1] at z0
    refine at84 (by omega) (fun z => ?_)
    rw [if_pos z.2.1] at z0
    have c1 := (cl_1.mp (hQ.2.2.2.2.2.2 k1 σ.1.1 (Nat.le_refl _) (hQ.2.2.2.1 (by omega)))).2.1
    rw [z0] at c1
    exact absurd c1 (by decide)
  · have k1 := hk.2.1.mp k1
    have e1 : σ.1.2.1 - σ.1.1 = 1 := by
      rw [h20w k1] at z0
      exact Classical.byContradiction (fun z => z0 (if_neg z))
    have e20 : M 100 20 = t σ.1.1 := by rw [h20w k1, if_pos e1]
    have hlt := hQ.2.2.2.1 (show σ.1.2.2 ≠ 0 by omega)
    rw [e20]
    refine sX8_isName (by omega) hkey (kI_i (bX8_part0_56 ⟨fun z => at84 (by omega) (fun w => ?_), fun z => ?_⟩))
    · rw [bl_0] at z
      exact z w.2.2
    · rw [bl_0, Classical.not_not] at z
      rw [if_neg (by omega), if_pos ⟨k1, e1, z⟩] at hR
      rw [e20]
      exact put_blk (K := fun X => ∀ M7 : Mem, M7 = um X 100 25 ((X 100 25) + 1) → Tr l G (d + 3) mX8_nextToken [.ref (G.1 100)] M7 (kV fun M' => At l G (d + 4) mX8_part0 82 [none, none] [] M' R)) hX (by omega) hA (op 1 _ 82 (by omega) hR (fun M' h => bX8_part0_82 h))
theorem siml_M (hn : n ≤ 96) (hA : A ≤ 2884) (hkey : key = 0 ∨ key = 1 ∨ key = 2) {f : Nat} (hl : SMl l G t n A key f) (ho : SMo l G t n A key f) : SMl l G t n A key (f + 1) := by
  intro r pa no σ M D R hr hpa hno hf hD hQ hm hX hR
  by_cases e5 : r = 5
  · subst e5
    exact simp_M hn hA hkey hl hpa hno hf (by omega) hQ hm hX hR
  · obtain ⟨d, rfl⟩ := dE (show 4 ≤ D by omega)
    rw [pr_L (by omega)] at hR
    unfold PL at hR
    have hG := pr_G t n key f (r + 1) pa no _ hQ
    have core : ∀ (K : Mem → Prop), (∀ M2, R (some (.int 0)) M2 → K M2) → (∀ M2, LpM l G d key M2 R r → K M2) → Tr l G (d + 3) (mLv (r + 1)) [.ref (G.1 100), .int key] M (fun v M2 => v = some (.int 0) ∧ R (some (.int 0)) M2 ∨ v = some (.int 1) ∧ LpM l G d key M2 R r) := by
      intro K _ _
      refine hl (r + 1) pa no σ M (d + 3) _ (by omega) hpa hno (by omega) (by omega) hQ hm hX ?_
      intro M2 hA2 g1 g2
      by_cases y : (PR t n key f (r + 1) pa no σ).1 = true
      · rw [if_pos y] at hR ⊢
        have a4' := hG.2.2.2.1 y (by omega)
        have a3' := hG.2.2.1
        have b1' := hG.1.1
        have b2' := hG.1.2.1
        exact Or.inr ⟨rfl, ho r pa no _ M2 d R (by omega) hpa hno (by omega) (by omega) hG.1 (by omega) (g1 y) (hR.tr hA2)⟩
      · rw [if_neg y] at hR ⊢
        exact Or.inl ⟨rfl, hR.fl hA2 (g2 y)⟩
    have h := core (fun _ => True) (fun _ _ => trivial) (fun _ _ => trivial)
    have hr5 : r = 0 ∨ r = 1 ∨ r = 2 ∨ r = 3 ∨ r = 4 := by omega
    rcases hr5 with rfl | rfl | rfl | rfl | rfl
    · refine tX8_either (h.mono (fun v M2 g => ?_))
      rcases g with ⟨e, g⟩ | ⟨e, g⟩
      · rw [e]; exact kI_i (bX8_either_5 ⟨fun _ => g, fun z => absurd rfl z⟩)
      · rw [e]; exact kI_i (bX8_either_5 ⟨fun z => absurd z (by decide), fun _ => g⟩)
    · refine tX8_both (h.mono (fun v M2 g => ?_))
      rcases g with ⟨e, g⟩ | ⟨e, g⟩
      · rw [e]; exact kI_i (bX8_both_5 ⟨fun _ => g, fun z => absurd rfl z⟩)
      · rw [e]; exact kI_i (bX8_both_5 ⟨fun z => absurd z (by decide), fun _ => g⟩)
    · refine tX8_test (h.mono (fun v M2 g => ?_))
      rcases g with ⟨e, g⟩ | ⟨e, g⟩
      · rw [e]; exact kI_i (bX8_test_5 ⟨fun _ => g, fun z => absurd rfl z⟩)
      · rw [e]; exact kI_i g
    · refine tX8_sum (h.mono (fun v M2 g => ?_))
      rcases g with ⟨e, g⟩ | ⟨e, g⟩
      · rw [e]; exact kI_i (bX8_sum_5 ⟨fun _ => g, fun z => absurd rfl z⟩)
      · rw [e]; exact kI_i (bX8_sum_5 ⟨fun z => absurd z (by decide), fun _ => g⟩)
    · refine tX8_term (h.mono (fun v M2 g => ?_))
      rcases g with ⟨e, g⟩ | ⟨e, g⟩
      · rw [e]; exact kI_i (bX8_term_5 ⟨fun _ => g, fun z => absurd rfl z⟩)
      · rw [e]; exact kI_i (bX8_term_5 ⟨fun z => absurd z (by decide), fun _ => g⟩)
theorem sim_M (hn : n ≤ 96) (hA : A ≤ 2884) (hkey : key = 0 ∨ key = 1 ∨ key = 2) : ∀ f, SMl l G t n A key f ∧ SMo l G t n A key f
  | 0 => ⟨fun r pa no σ M D R hr hpa hno hf => by omega, fun r pa no σ M d R hr hpa hno hf => by omega⟩
  | f + 1 => by
    obtain ⟨hl, ho⟩ := sim_M hn hA hkey f
    refine ⟨siml_M hn hA hkey hl ho, fun r pa no σ M d R hr hpa hno hf hD hQ hm hX hR => ?_⟩
    have hr5 : r = 0 ∨ r = 1 ∨ r = 2 ∨ r = 3 ∨ r = 4 := by omega
    rcases hr5 with rfl | rfl | rfl | rfl | rfl
    · exact simo_0 hn hA hl ho hpa hno hf hD hQ hm hX hR
    · exact simo_1 hn hA hl ho hpa hno hf hD hQ hm hX hR
    · exact simo_2 hn hA hl hpa hno hf hD hQ hm hX hR
    · exact simo_3 hn hA hl ho hpa hno hf hD hQ hm hX hR
    · exact simo_4 hn hA hl ho hpa hno hf hD hQ hm hX hR
end
