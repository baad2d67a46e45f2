section
variable {l : Launch} {G : GT} {M : Mem}
theorem sh1 {q v z : Int32} (hz : q = -1 ∧ z = 0 ∨ (q = 0 ∨ q = 1) ∧ z = v ∧ Rg 25 v) : q = -1 ∨ (q = 0 ∨ q = 1) ∧ v.toInt ≤ 24 := by
  rcases hz with ⟨hz, -⟩ | ⟨hz, -, hz2, hz3⟩
  · exact Or.inl hz
  · exact Or.inr ⟨hz, by omega⟩
theorem sh2 {q v z : Int32} (hz : q = -1 ∧ z = 0 ∨ (q = 0 ∨ q = 1) ∧ z = v ∧ Rg 25 v) (a2 : q = 0 ∨ q = 1) (a3 : v.toInt < 0) : False := by
  rcases hz with ⟨rfl, -⟩ | ⟨-, -, hz2, -⟩
  · rcases a2 with a2 | a2 <;> exact absurd a2 (by decide)
  · omega
theorem P_sheet {k q v : Int32} (h : Rel M) : Pr l G mX7_sheet mX8_sheet [.int k, .int q, .int v] M := by
  refine X_sheet (by decide) (fun hb => ⟨_, rfl, M_sheet (by decide) (fun _ => ⟨rfl, h⟩) (fun a1 a2 a3 => absurd ⟨a1, Or.inr ⟨a2, by omega⟩⟩ hb) (fun a1 z hz => absurd ⟨a1, sh1 hz⟩ hb)⟩)
    (fun a1 a2 a3 => ⟨_, rfl, M_sheet (by decide) (fun hb => absurd ⟨a1, Or.inr ⟨a2, by omega⟩⟩ hb) (fun _ _ _ => ⟨rfl, h⟩) (fun _ z hz => (sh2 hz a2 a3).elim)⟩) (fun a1 z hz M1 hA e1 e2 => ?_)
  · obtain ⟨k, hk, rfl⟩ := a1.ex
    have xk := ix_nI (show k < 2 ^ 31 by omega)
    rw [xk] at hA e1 e2
    have hi : ∀ i, 100 ≤ i → M1 i = M i := fun i hi => hA i (by simp; omega)
    refine ⟨z, rfl, M_sheet (by decide) (fun hb => absurd ⟨a1, sh1 hz⟩ hb) (fun _ b2 b3 => (sh2 hz b2 b3).elim) (fun _ z2 hz2 M2 hB g1 g2 g3 => ?_)⟩
    · rw [xk] at g1 g2 g3
      have ez : z2 = z := by
        rcases hz with ⟨rfl, rfl⟩ | ⟨w, rfl, -⟩
        · rcases hz2 with ⟨-, rfl⟩ | ⟨w2 | w2, -⟩
          · rfl
          · exact absurd w2 (by decide)
          · exact absurd w2 (by decide)
        · rcases hz2 with ⟨rfl, -⟩ | ⟨-, rfl, -⟩
          · rcases w with w | w <;> exact absurd w (by decide)
          · rfl
      subst ez
      have hzr : ∃ a, a ≤ 24 ∧ z2 = nI a := by
        rcases hz with ⟨-, rfl⟩ | ⟨-, rfl, hr⟩
        · exact ⟨0, by decide, rfl⟩
        · obtain ⟨a, ha, e⟩ := hr.ex
          exact ⟨a, by omega, e⟩
      have hqr : q = -1 ∨ q = 0 ∨ q = 1 := by
        rcases hz with ⟨w, -⟩ | ⟨w, -⟩
        · exact Or.inl w
        · exact Or.inr w
      refine ⟨rfl, h.sh hk hA hB (fun j hj => ?_) (fun j hj => ?_)⟩
      · have b1 : M2 (70 + 2 * j) = M1 (70 + 2 * j) := hB _ (by simp; omega)
        have b2 : M2 (70 + 2 * j + 1) = M1 (70 + 2 * j + 1) := hB _ (by simp; omega)
        rw [b1, b2, g1, g2]
        by_cases ej : j = k
        · subst ej
          rw [e1, pk_us, pk_us, pk_us, pk_un (by decide), pk_us]
          exact ⟨rfl, rfl, fun i hi2 => by rw [e2 i hi2, g3, if_pos ⟨by omega, by omega⟩]⟩
        · rw [hA (70 + 2 * j) (by simp; omega), hA (70 + 2 * j + 1) (by simp; omega), pk_un ej, pk_un ej, hi 104 (by decide), hi 105 (by decide)]
          obtain ⟨c1, c2, c3⟩ := h.1.2.2.2.1 j hj
          exact ⟨c1, c2, fun i hi2 => by rw [c3 i hi2, g3, if_neg (by omega), hi 106 (by decide)]⟩
      · rw [g1, g2]
        by_cases ej : j = k
        · subst ej
          rw [pk_us, pk_us]
          exact ⟨hqr, hzr⟩
        · rw [pk_un ej, pk_un ej, hi 104 (by decide), hi 105 (by decide)]
          exact h.2.2.2.2.1 j hj
theorem P_mark {k i v : Int32} (h : Rel M) : Pr l G mX7_mark mX8_mark [.int k, .int i, .int v] M := by
  refine X_mark (by decide) h
    (fun hb => ⟨_, rfl, M_mark (by decide) h.2 (fun _ => ⟨rfl, h⟩) (fun a1 _ => absurd a1 hb) (fun a1 _ _ => absurd a1 hb) (fun a1 _ _ _ => absurd a1 hb) (fun a1 _ _ _ _ => absurd a1 hb) (fun a1 _ _ => absurd a1 hb)⟩)
    (fun a1 a2 => ⟨_, rfl, M_mark (by decide) h.2 (fun hb => absurd a1 hb) (fun _ _ => ⟨rfl, h⟩) (fun _ b _ => absurd a2 b) (fun _ b _ _ => absurd (a2.symm.trans b) (by decide)) (fun _ b _ _ _ => absurd (a2.symm.trans b) (by decide)) (fun _ _ b => ?_)⟩)
    (fun a1 a2 a3 => ⟨_, rfl, M_mark (by decide) h.2 (fun hb => absurd a1 hb) (fun _ b => absurd b a2) (fun _ _ _ => ⟨rfl, h⟩) (fun _ _ b _ => absurd b a3) (fun _ _ b _ _ => absurd b a3) (fun _ b _ => absurd b a3)⟩)
    (fun a1 a2 a3 a4 => ⟨_, rfl, M_mark (by decide) h.2 (fun hb => absurd a1 hb) (fun _ b => absurd (a2.symm.trans b) (by decide)) (fun _ _ b => absurd a3 b) (fun _ _ _ _ => ⟨rfl, h⟩) (fun _ b _ _ _ => absurd (a2.symm.trans b) (by decide)) (fun _ _ b => ?_)⟩)
    (fun a1 a2 a3 a4 a5 => ⟨_, rfl, M_mark (by decide) h.2 (fun hb => absurd a1 hb) (fun _ b => absurd (a2.symm.trans b) (by decide)) (fun _ _ b => absurd a3 b) (fun _ b _ _ => absurd (a2.symm.trans b) (by decide)) (fun _ _ _ _ _ => ⟨rfl, h⟩) (fun _ _ b => ?_)⟩)
    (fun a1 a2 a3 => ?_)
  · rcases b with ⟨b, -⟩ | ⟨b, -⟩ <;> exact absurd (a2.symm.trans b) (by decide)
  · rcases b with ⟨-, b⟩ | ⟨b, -⟩
    · exact absurd a4 b
    · exact absurd (a2.symm.trans b) (by decide)
  · rcases b with ⟨b, -⟩ | ⟨-, b | b⟩
    · exact absurd (a2.symm.trans b) (by decide)
    · exact absurd b a4
    · exact absurd b a5
  · obtain ⟨k, hk, rfl⟩ := a1.ex
    have xk := ix_nI (show k < 2 ^ 31 by omega)
    rw [xk] at a2 a3 ⊢
    obtain ⟨n, hn, en⟩ := (h.2.2.2.2.1 k hk).2
    have hx : ix i < 24 := by
      rw [en, ix_nI (by omega)] at a2
      have := ix_rg a2 (by omega)
      omega
    generalize hw : (if M 104 k = 0 then v.toInt16.toInt32 else v) = w
    have hA : Ag [70 + 2 * k, 70 + 2 * k + 1] M (um M (70 + 2 * k + 1) (ix i) w) := fun j hj => um_n _ _ _ (by simp at hj; omega)
    have e1 : (um M (70 + 2 * k + 1) (ix i) w) (70 + 2 * k + 1) = upd (M (70 + 2 * k + 1)) (ix i) w := um_s _ _ _ _
    have e0 : (um M (70 + 2 * k + 1) (ix i) w) (70 + 2 * k) = M (70 + 2 * k) := um_n _ _ _ (by omega)
    generalize um M (70 + 2 * k + 1) (ix i) w = M1 at hA e1 e0
    have hi : ∀ j, 100 ≤ j → M1 j = M j := fun j hj => hA j (by simp; omega)
    have h4 := hi 104 (by decide)
    have h5 := hi 105 (by decide)
    refine ⟨1, rfl, M_mark (by decide) (h.2.hi hi) (fun hb => absurd a1 hb) (fun _ b => ?_) (fun _ _ b => ?_) (fun _ b b2 b3 => ?_) (fun _ b b2 b3 b4 => ?_) (fun _ _ _ => ⟨rfl, ?_⟩)⟩
    · rw [xk, h4] at b
      rcases a3 with ⟨c, -⟩ | ⟨c, -⟩ <;> exact absurd (b.symm.trans c) (by decide)
    · rw [xk, h5] at b
      exact absurd a2 b
    · rw [xk, h4] at b
      rcases a3 with ⟨-, c⟩ | ⟨c, -⟩
      · exact absurd b3 c
      · exact absurd (b.symm.trans c) (by decide)
    · rw [xk, h4] at b
      rcases a3 with ⟨c, -⟩ | ⟨-, c | c⟩
      · exact absurd (b.symm.trans c) (by decide)
      · exact absurd c b3
      · exact absurd c b4
    · rw [xk, h4, hw]
      have hB : Ag [104, 105, 106] M1 (um M1 106 (24 * k + ix i) w) := fun j hj => um_n _ _ _ (by simp at hj; omega)
      have g1 : (um M1 106 (24 * k + ix i) w) 106 = upd (M1 106) (24 * k + ix i) w := um_s _ _ _ _
      have g4 : (um M1 106 (24 * k + ix i) w) 104 = M1 104 := um_n _ _ _ (by decide)
      have g5 : (um M1 106 (24 * k + ix i) w) 105 = M1 105 := um_n _ _ _ (by decide)
      generalize um M1 106 (24 * k + ix i) w = M2 at hB g1 g4 g5
      refine h.sh hk hA hB (fun j hj => ?_) (fun j hj => ?_)
      · have b1 : M2 (70 + 2 * j) = M1 (70 + 2 * j) := hB _ (by simp; omega)
        have b2 : M2 (70 + 2 * j + 1) = M1 (70 + 2 * j + 1) := hB _ (by simp; omega)
        obtain ⟨c1, c2, c3⟩ := h.1.2.2.2.1 j hj
        rw [b1, b2, g1, g4, g5, h4, h5, hi 106 (by decide)]
        by_cases ej : j = k
        · subst ej
          rw [e0, e1]
          refine ⟨c1, c2, fun a ha => ?_⟩
          by_cases ea : a = ix i
          · subst ea
            rw [pk_us, pk_us]
          · rw [pk_un ea, pk_un (by omega)]
            exact c3 a ha
        · rw [hA (70 + 2 * j) (by simp; omega), hA (70 + 2 * j + 1) (by simp; omega)]
          refine ⟨c1, c2, fun a ha => ?_⟩
          rw [pk_un (by omega)]
          exact c3 a ha
      · rw [g4, g5, h4, h5]
        exact h.2.2.2.2.1 j hj
end
