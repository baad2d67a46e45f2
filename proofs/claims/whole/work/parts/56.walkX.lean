-- the program's walks
theorem bt_or1 {x : Int32} {n i : Nat} (hn : n < 32) : bt (x ||| ((1 : Int32) <<< (nI n &&& 31))) i = true ↔ bt x i = true ∨ i = n := by
  rw [b_or, bt_one hn, Bool.or_eq_true, decide_eq_true_eq]
theorem bt_z (i : Nat) : ¬ bt 0 i = true := by
  by_cases h : i < 32
  · have : ∀ i, i < 32 → ¬ bt 0 i = true := by decide +kernel
    exact this i h
  · rw [b_big (by omega)]; exact Bool.false_ne_true
/-- one step of person k from place q -/
def Sp (s : Nat → Int32) (k q p w : Nat) : Prop := sd s w = 1 ∧ bt (rdS s k (nI q)) w = true ∧ ((fr s w = nI q ∧ tt s w = nI p) ∨ (tt s w = nI q ∧ fr s w = nI p))
/-- the table of next places -/
def NX (M : Mem) (s : Nat → Int32) : Prop := ∀ k, k < 8 → ∀ q, q < 10 → ∀ p, p < 32 → (bt (M 61 (10 * k + q)) p = true ↔ (k < np s ∧ ∃ w, w < nw s ∧ Sp s k q p w))
theorem sp_lt {s : Nat → Int32} (hI : Inv s) {k q p w : Nat} (hq : q < 10) (hw : w < nw s) (hp : p < 32) (h : Sp s k q p w) : p < 10 := by
  obtain ⟨-, -, h⟩ := h
  obtain ⟨⟨a, ha, ea⟩, ⟨c, hc, ec⟩, -⟩ := hI.2.2.2.2 w hw
  rcases h with ⟨-, h⟩ | ⟨-, h⟩
  · rw [ec] at h
    have := (nI_eq (by omega) (by omega)).mp h
    omega
  · rw [ea] at h
    have := (nI_eq (by omega) (by omega)).mp h
    omega
section
variable {l : Launch} {G : GT} {D : Nat} {M : Mem} {R : Option Value → Mem → Prop} {b : Nat} {s : Nat → Int32}
theorem sX6_nextPlaces {k q : Nat} (hb : IsLd b) (hD : 8 ≤ D) (hI : Inv s) (hL : LR M b s) (hk : k < np s) (hq : q < 10) (hR : ∀ v, (∀ p, p < 32 → (bt v p = true ↔ ∃ w, w < nw s ∧ Sp s k q p w)) → R (some (.int v)) M) : Tr l G D mX6_nextPlaces [.ref (G.1 b), .int (nI k), .int (nI q)] M R := by
  obtain ⟨d, rfl⟩ := dE (show 4 ≤ D by omega)
  have h8 := hI.1.2
  have h14 := hI.2.1.2
  have e6 : M b 6 = nI (nw s) := hL.1.2.1.trans hI.2.1.1
  refine tX6_nextPlaces hb (sX1_readBy hb (by omega) hL (by omega) hq (kI_i (bX6_nextPlaces_6 hb ⟨vpn (by omega) (by decide), ?_⟩)))
  rw [ix_nI (by omega), hL.2.2.2.2.2.2.2.1 q hq, hL.1.2.2.1]
  have hB : ∀ w, w < nw s → (bt (rdS s k (nI q) &&& eIn s (nI q) &&& stS s) w = true ↔ (sd s w = 1 ∧ bt (rdS s k (nI q)) w = true ∧ (fr s w = nI q ∨ tt s w = nI q))) := by
    intro w hw
    unfold eIn stS
    rw [b_and, b_and, bt_bs _ _ _ (by omega), bt_bs _ _ _ (by omega), decide_eq_true hw]
    unfold tch
    simp only [Bool.and_eq_true, Bool.or_eq_true, decide_eq_true_eq, Bool.true_and]
    constructor
    · rintro ⟨⟨h1, h2⟩, h3⟩; exact ⟨h3, h1, h2⟩
    · rintro ⟨h3, h1, h2⟩; exact ⟨⟨h1, h2⟩, h3⟩
  generalize hg : rdS s k (nI q) &&& eIn s (nI q) &&& stS s = g at hB ⊢
  have loop : ∀ i, i ≤ nw s → ∀ v, (∀ p, p < 32 → (bt v p = true ↔ ∃ w, w < i ∧ Sp s k q p w)) → At l G (d + 4) mX6_nextPlaces 25 [some (.ref (G.1 b)), none, some (.int (nI q)), some (.int g), some (.int v), some (.int (nI i))] [] M R := by
    refine upL (fun i => ∀ v, (∀ p, p < 32 → (bt v p = true ↔ ∃ w, w < i ∧ Sp s k q p w)) → At l G (d + 4) mX6_nextPlaces 25 [some (.ref (G.1 b)), none, some (.int (nI q)), some (.int g), some (.int v), some (.int (nI i))] [] M R) (nw s) ?_ ?_
    · intro v hv
      exact bX6_nextPlaces_25 hb ⟨fun _ => hR v hv, fun h => absurd (by rw [e6, le_nI (by omega) (by omega)]; exact Nat.le_refl _) h⟩
    · intro i hi ih v hv
      obtain ⟨⟨a, ha, ea⟩, ⟨c, hc, ec⟩, -⟩ := hI.2.2.2.2 i hi
      have ne : ∀ x y, x < 2 ^ 31 → y < 2 ^ 31 → (nI x = nI y ↔ x = y) := fun x y h1 h2 => nI_eq h1 h2
      refine bX6_nextPlaces_25 hb ⟨fun h => absurd h (by rw [e6, le_nI (by omega) (by omega)]; omega), fun _ => ⟨fun h => ?_, fun h => ⟨vpn (by omega) (by decide), fun h2 => ⟨vpn (by omega) (by decide), ?_⟩, fun h2 => ⟨vpn (by omega) (by decide), ?_⟩⟩⟩⟩
      · rw [has0 _ (by omega)] at h
        rw [p1]
        refine ih v (fun p hp => (hv p hp).trans ⟨fun ⟨w, h1, h2⟩ => ⟨w, by omega, h2⟩, fun ⟨w, h1, h2⟩ => ?_⟩)
        by_cases e : w = i
        · rw [e] at h2
          obtain ⟨g1, g2, g3⟩ := h2
          exact absurd ((hB i hi).mpr ⟨g1, g2, g3.elim (fun z => Or.inl z.1) (fun z => Or.inr z.1)⟩) h
        · exact ⟨w, by omega, h2⟩
      · rw [has0 _ (by omega), Classical.not_not, hB i hi] at h
        rw [ix_nI (by omega), hL.2.2.2.2.2.1 i (by omega)] at h2
        rw [ix_nI (by omega), hL.2.2.2.2.2.2.1 i (by omega), ec, p1]
        refine ih _ (fun p hp => (bt_or1 (by omega)).trans ⟨fun h3 => ?_, fun ⟨w, h3, h4⟩ => ?_⟩)
        · rcases h3 with h3 | h3
          · obtain ⟨w, h5, h6⟩ := (hv p hp).mp h3
            exact ⟨w, by omega, h6⟩
          · exact ⟨i, by omega, h.1, h.2.1, Or.inl ⟨h2, by rw [ec, h3]⟩⟩
        · by_cases e : w = i
          · rw [e] at h4
            refine Or.inr ?_
            obtain ⟨-, -, h4⟩ := h4
            rcases h4 with ⟨-, h4⟩ | ⟨h4, h5⟩
            · rw [ec] at h4
              exact ((ne c p (by omega) (by omega)).mp h4).symm
            · rw [ec] at h4
              have q1 := (ne c q (by omega) (by omega)).mp h4
              rw [h2] at h5
              have q2 := (ne q p (by omega) (by omega)).mp h5
              omega
          · exact Or.inl ((hv p hp).mpr ⟨w, by omega, h4⟩)
      · rw [has0 _ (by omega), Classical.not_not, hB i hi] at h
        rw [ix_nI (by omega), hL.2.2.2.2.2.1 i (by omega)] at h2
        have h2' := h.2.2.resolve_left h2
        rw [ix_nI (by omega), hL.2.2.2.2.2.1 i (by omega), ea, p1]
        refine ih _ (fun p hp => (bt_or1 (by omega)).trans ⟨fun h3 => ?_, fun ⟨w, h3, h4⟩ => ?_⟩)
        · rcases h3 with h3 | h3
          · obtain ⟨w, h5, h6⟩ := (hv p hp).mp h3
            exact ⟨w, by omega, h6⟩
          · exact ⟨i, by omega, h.1, h.2.1, Or.inr ⟨h2', by rw [ea, h3]⟩⟩
        · by_cases e : w = i
          · rw [e] at h4
            refine Or.inr ?_
            obtain ⟨-, -, h4⟩ := h4
            rcases h4 with ⟨h4, h5⟩ | ⟨-, h4⟩
            · exact absurd h4 h2
            · rw [ea] at h4
              exact ((ne a p (by omega) (by omega)).mp h4).symm
          · exact Or.inl ((hv p hp).mpr ⟨w, by omega, h4⟩)
  exact loop 0 (Nat.zero_le _) 0 (fun p _ => ⟨fun h => absurd h (bt_z p), fun ⟨w, h, _⟩ => absurd h (Nat.not_lt_zero w)⟩)
theorem i10 {k q : Nat} (hk : k < 8) (hq : q < 10) : nI k * 10 + nI q = nI (10 * k + q) := by
  have : ∀ k, k < 8 → ∀ q, q < 10 → nI k * 10 + nI q = nI (10 * k + q) := by decide +kernel
  exact this k hk q hq
theorem sX6_look (hb : IsLd b) (hD : 12 ≤ D) (hI : Inv s) (hL : LR M b s) (hR : ∀ M', Ag [61] M M' → NX M' s → R none M') : Tr l G D mX6_look [.ref (G.1 60), .ref (G.1 b)] M R := by
  obtain ⟨d, rfl⟩ := dE (show 4 ≤ D by omega)
  have h8 := hI.1.2
  have e1 : M b 1 = nI (np s) := hL.1.1.trans hI.1.1
  have hb' := hb
  unfold IsLd at hb'
  let Q : Mem → Nat → Nat → Prop := fun M' i j => ∀ k, k < 8 → ∀ q, q < 10 → 10 * k + q < 10 * i + j → ∀ p, p < 32 → (bt (M' 61 (10 * k + q)) p = true ↔ (k < np s ∧ ∃ w, w < nw s ∧ Sp s k q p w))
  have step : ∀ (M' : Mem) (i j : Nat) (v : Int32), i < 8 → j < 10 → Q M' i j → (∀ p, p < 32 → (bt v p = true ↔ (i < np s ∧ ∃ w, w < nw s ∧ Sp s i j p w))) → Q (um M' 61 (10 * i + j) v) i (j + 1) := by
    intro M' i j v hi hj hQ hv k hk q hq hlt p hp
    rw [um_s]
    by_cases e : 10 * k + q = 10 * i + j
    · rw [e, pk_us, show k = i by omega, show q = j by omega]
      exact hv p hp
    · rw [pk_un e]
      exact hQ k hk q hq (by omega) p hp
  have outer : ∀ i, i ≤ 8 → ∀ M', Ag [61] M M' → Q M' i 0 → At l G (d + 4) mX6_look 2 [some (.ref (G.1 60)), some (.ref (G.1 b)), some (.int (nI i)), none] [] M' R := by
    refine upL (fun i => ∀ M', Ag [61] M M' → Q M' i 0 → At l G (d + 4) mX6_look 2 [some (.ref (G.1 60)), some (.ref (G.1 b)), some (.int (nI i)), none] [] M' R) 8 ?_ ?_
    · intro M' hA hQ
      exact bX6_look_2 hb ⟨fun _ => hR M' hA (fun k hk q hq p hp => hQ k hk q hq (by omega) p hp), fun h => absurd (by decide : (8 : Int32) ≤ nI 8) h⟩
    · intro i hi ih M' hA hQ
      refine bX6_look_2 hb ⟨fun h => absurd h (by rw [show (8 : Int32) = nI 8 from rfl, le_nI (by omega) (by omega)]; omega), fun _ => ?_⟩
      have inner : ∀ j, j ≤ 10 → ∀ M', Ag [61] M M' → Q M' i j → At l G (d + 4) mX6_look 10 [some (.ref (G.1 60)), some (.ref (G.1 b)), some (.int (nI i)), some (.int (nI j))] [] M' R := by
        refine upL (fun j => ∀ M', Ag [61] M M' → Q M' i j → At l G (d + 4) mX6_look 10 [some (.ref (G.1 60)), some (.ref (G.1 b)), some (.int (nI i)), some (.int (nI j))] [] M' R) 10 ?_ ?_
        · intro M1 hA1 hQ1
          refine bX6_look_10 hb ⟨fun _ => ?_, fun h => absurd (by decide : (10 : Int32) ≤ nI 10) h⟩
          rw [p1]
          exact ih M1 hA1 (fun k hk q hq hlt p hp => hQ1 k hk q hq (by omega) p hp)
        · intro j hj ihj M1 hA1 hQ1
          have eb : M1 b 1 = nI (np s) := by rw [hA1 b (by simp only [List.mem_cons, List.not_mem_nil, or_false]; omega)]; exact e1
          refine bX6_look_10 hb ⟨fun h => absurd h (by rw [show (10 : Int32) = nI 10 from rfl, le_nI (by omega) (by omega)]; omega), fun _ => ⟨fun h => ?_, fun h => ?_⟩⟩
          · rw [eb, le_nI (by omega) (by omega)] at h
            rw [i10 hi hj, ix_nI (by omega), p1]
            exact ⟨vpn (by omega) (by decide), ihj _ (hA1.ua (by decide) _) (step M1 i j 0 hi hj hQ1 (fun p _ => ⟨fun h1 => absurd h1 (bt_z p), fun h1 => absurd h1.1 (by omega)⟩))⟩
          · rw [eb, le_nI (by omega) (by omega)] at h
            have hL1 : LR M1 b s := hL.of (fun j hj => hA1 _ (by simp only [List.mem_cons, List.not_mem_nil, or_false]; omega))
            refine sX6_nextPlaces hb (by omega) hI hL1 (by omega) hj (fun v hv => kI_i (bX6_look_40 hb ?_))
            rw [i10 hi hj, ix_nI (by omega), p1]
            exact ⟨vpn (by omega) (by decide), ihj _ (hA1.ua (by decide) _) (step M1 i j v hi hj hQ1 (fun p hp => (hv p hp).trans ⟨fun h1 => ⟨by omega, h1⟩, fun h1 => h1.2⟩))⟩
      exact inner 0 (by omega) M' hA hQ
  exact tX6_look hb (outer 0 (by omega) M (Ag.rf _ _) (fun k _ q _ h => absurd h (by omega)))
end
