-- the program's walks: one way further, reached, fewest ways
def RS (s : Nat → Int32) (x : Int32) (f t : Nat) (y : Int32) : Prop := ∀ p, p < 32 → (bt y p = true ↔ Rc s x f t p)
theorem ed_sp {s : Nat → Int32} {x : Int32} {q p : Nat} : Ed s x q p ↔ ∃ k, k < np s ∧ bt x k = true ∧ ∃ w, w < nw s ∧ Sp s k q p w := Iff.rfl
theorem rs_0 (s : Nat → Int32) (x : Int32) {f : Nat} (hf : f < 10) : RS s x f 0 ((1 : Int32) <<< (nI f &&& 31)) := fun p hp => by
  rw [bt_one (by omega), decide_eq_true_eq]
  exact Iff.rfl
section
variable {l : Launch} {G : GT} {D : Nat} {M : Mem} {R : Option Value → Mem → Prop} {b : Nat} {s : Nat → Int32}
theorem sX6_oneWayFurther {x y : Int32} {f t : Nat} (hD : 4 ≤ D) (hI : Inv s) (hN : NX M s) (hY : RS s x f t y) (hR : ∀ y', RS s x f (t + 1) y' → R (some (.int y')) M) : Tr l G D mX6_oneWayFurther [.ref (G.1 60), .int x, .int y] M R := by
  obtain ⟨d, rfl⟩ := dE hD
  have h8 := hI.1.2
  let Q : Nat → Nat → Int32 → Prop := fun i j v => ∀ p, p < 32 → (bt v p = true ↔ (bt y p = true ∨ ∃ k, k < 8 ∧ ∃ q, q < 10 ∧ 10 * k + q < 10 * i + j ∧ bt x k = true ∧ bt y q = true ∧ bt (M 61 (10 * k + q)) p = true))
  have outer : ∀ i, i ≤ 8 → ∀ v, Q i 0 v → At l G (d + 4) mX6_oneWayFurther 5 [some (.ref (G.1 60)), some (.int x), some (.int y), some (.int v), some (.int (nI i)), none] [] M R := by
    refine upL (fun i => ∀ v, Q i 0 v → At l G (d + 4) mX6_oneWayFurther 5 [some (.ref (G.1 60)), some (.int x), some (.int y), some (.int v), some (.int (nI i)), none] [] M R) 8 ?_ ?_
    · intro v hv
      refine bX6_oneWayFurther_5 ⟨fun _ => hR v (fun p hp => (hv p hp).trans ⟨fun h => ?_, fun h => ?_⟩), fun h => absurd (by decide : (8 : Int32) ≤ nI 8) h⟩
      · rcases h with h | ⟨k, hk, q, hq, -, h1, h2, h3⟩
        · exact Or.inl ((hY p hp).mp h)
        · obtain ⟨g1, g2⟩ := (hN k hk q hq p hp).mp h3
          exact Or.inr ⟨q, hq, (hY q (by omega)).mp h2, k, g1, h1, g2⟩
      · rcases h with h | ⟨q, hq, h2, k, g1, h1, g2⟩
        · exact Or.inl ((hY p hp).mpr h)
        · exact Or.inr ⟨k, by omega, q, hq, by omega, h1, (hY q (by omega)).mpr h2, (hN k (by omega) q hq p hp).mpr ⟨g1, g2⟩⟩
    · intro i hi ih v hv
      refine bX6_oneWayFurther_5 ⟨fun h => absurd h (by rw [show (8 : Int32) = nI 8 from rfl, le_nI (by omega) (by omega)]; omega), fun _ => ?_⟩
      have inner : ∀ j, j ≤ 10 → ∀ v, Q i j v → At l G (d + 4) mX6_oneWayFurther 15 [some (.ref (G.1 60)), some (.int x), some (.int y), some (.int v), some (.int (nI i)), some (.int (nI j))] [] M R := by
        have skip : ∀ j v, j ≤ 10 → ¬ bt x i = true → Q i j v → Q (i + 1) 0 v := by
          intro j v hj hx hv p hp
          refine (hv p hp).trans ⟨fun h => h.elim Or.inl (fun ⟨k, hk, q, hq, hlt, h⟩ => Or.inr ⟨k, hk, q, hq, by omega, h⟩), fun h => h.elim Or.inl (fun ⟨k, hk, q, hq, hlt, h⟩ => Or.inr ⟨k, hk, q, hq, ?_, h⟩)⟩
          by_cases e : k = i
          · rw [e] at h; exact absurd h.1 hx
          · omega
        refine upL (fun j => ∀ v, Q i j v → At l G (d + 4) mX6_oneWayFurther 15 [some (.ref (G.1 60)), some (.int x), some (.int y), some (.int v), some (.int (nI i)), some (.int (nI j))] [] M R) 10 ?_ ?_
        · intro v hv
          refine bX6_oneWayFurther_15 ⟨fun h => ?_, fun h => ⟨fun _ => ?_, fun h2 => absurd (by decide : (10 : Int32) ≤ nI 10) h2⟩⟩
          · rw [has0 _ (by omega)] at h
            rw [p1]
            exact ih v (skip 10 v (by omega) h hv)
          · rw [p1]
            exact ih v (fun p hp => (hv p hp).trans ⟨fun h => h.elim Or.inl (fun ⟨k, hk, q, hq, hlt, h⟩ => Or.inr ⟨k, hk, q, hq, by omega, h⟩), fun h => h.elim Or.inl (fun ⟨k, hk, q, hq, hlt, h⟩ => Or.inr ⟨k, hk, q, hq, by omega, h⟩)⟩)
        · intro j hj ihj v hv
          refine bX6_oneWayFurther_15 ⟨fun h => ?_, fun h => ⟨fun h2 => absurd h2 (by rw [show (10 : Int32) = nI 10 from rfl, le_nI (by omega) (by omega)]; omega), fun _ => ⟨fun h2 => ?_, fun h2 => ?_⟩⟩⟩
          · rw [has0 _ (by omega)] at h
            rw [p1]
            exact ih v (skip j v (by omega) h hv)
          · rw [has0 _ (by omega)] at h2
            rw [p1]
            refine ihj v (fun p hp => (hv p hp).trans ⟨fun h => h.elim Or.inl (fun ⟨k, hk, q, hq, hlt, h⟩ => Or.inr ⟨k, hk, q, hq, by omega, h⟩), fun h => h.elim Or.inl (fun ⟨k, hk, q, hq, hlt, h⟩ => Or.inr ⟨k, hk, q, hq, ?_, h⟩)⟩)
            by_cases e : 10 * k + q = 10 * i + j
            · rw [show q = j by omega] at h; exact absurd h.2.1 h2
            · omega
          · rw [has0 _ (by omega), Classical.not_not] at h h2
            rw [i10 hi hj, ix_nI (by omega), p1]
            refine ⟨vpn (by omega) (by decide), ihj _ (fun p hp => ?_)⟩
            rw [b_or, Bool.or_eq_true, hv p hp]
            constructor
            · intro h3
              rcases h3 with (h3 | ⟨k, hk, q, hq, hlt, h3⟩) | h3
              · exact Or.inl h3
              · exact Or.inr ⟨k, hk, q, hq, by omega, h3⟩
              · exact Or.inr ⟨i, hi, j, hj, by omega, h, h2, h3⟩
            · intro h3
              rcases h3 with h3 | ⟨k, hk, q, hq, hlt, h3⟩
              · exact Or.inl (Or.inl h3)
              · by_cases e : 10 * k + q = 10 * i + j
                · rw [e] at h3; exact Or.inr h3.2.2
                · exact Or.inl (Or.inr ⟨k, hk, q, hq, by omega, h3⟩)
      exact inner 0 (by omega) v hv
  exact tX6_oneWayFurther (outer 0 (by omega) y (fun p _ => ⟨Or.inl, fun h => h.elim id (fun ⟨k, _, q, _, h, _⟩ => absurd h (by omega))⟩))
theorem sX6_reached {x : Int32} {f : Nat} (hD : 8 ≤ D) (hI : Inv s) (hN : NX M s) (hf : f < 10) (hR : ∀ y, RS s x f 9 y → R (some (.int y)) M) : Tr l G D mX6_reached [.ref (G.1 60), .int x, .int (nI f)] M R := by
  obtain ⟨d, rfl⟩ := dE (show 4 ≤ D by omega)
  refine tX6_reached ?_
  have loop : ∀ t, t ≤ 9 → ∀ y, RS s x f t y → At l G (d + 4) mX6_reached 7 [some (.ref (G.1 60)), some (.int x), none, some (.int y), some (.int (nI (t + 1)))] [] M R := by
    refine upL (fun t => ∀ y, RS s x f t y → At l G (d + 4) mX6_reached 7 [some (.ref (G.1 60)), some (.int x), none, some (.int y), some (.int (nI (t + 1)))] [] M R) 9 ?_ ?_
    · intro y hy
      exact bX6_reached_7 ⟨fun _ => hR y hy, fun h => absurd (by decide : (10 : Int32) ≤ nI 10) h⟩
    · intro t ht ih y hy
      refine bX6_reached_7 ⟨fun h => absurd h (by rw [show (10 : Int32) = nI 10 from rfl, le_nI (by omega) (by omega)]; omega), fun _ => ?_⟩
      refine sX6_oneWayFurther (by omega) hI hN hy (fun y' hy' => kI_i (bX6_reached_20 ?_))
      rw [p1]
      exact ih y' hy'
  exact loop 0 (by omega) _ (rs_0 s x hf)
theorem sX6_fewestWays {x : Int32} {f p : Nat} (hD : 8 ≤ D) (hI : Inv s) (hN : NX M s) (hf : f < 10) (hp : p < 10) (hR : ∀ a, Jn s x f p a → R (some (.int a)) M) : Tr l G D mX6_fewestWays [.ref (G.1 60), .int x, .int (nI f), .int (nI p)] M R := by
  obtain ⟨d, rfl⟩ := dE (show 4 ≤ D by omega)
  refine tX6_fewestWays ?_
  have loop : ∀ t, t ≤ 10 → ∀ y, RS s x f t y → (∀ i, i < t → ¬ Rc s x f i p) → At l G (d + 4) mX6_fewestWays 8 [some (.ref (G.1 60)), some (.int x), none, some (.int (nI p)), some (.int y), some (.int (nI t))] [] M R := by
    refine upL (fun t => ∀ y, RS s x f t y → (∀ i, i < t → ¬ Rc s x f i p) → At l G (d + 4) mX6_fewestWays 8 [some (.ref (G.1 60)), some (.int x), none, some (.int (nI p)), some (.int y), some (.int (nI t))] [] M R) 10 ?_ ?_
    · intro y hy hn
      exact bX6_fewestWays_8 ⟨fun _ => hR _ (Or.inl ⟨rfl, fun t ht => hn 9 (by decide) (rc_9 hp ht)⟩), fun h => absurd (by decide : (10 : Int32) ≤ nI 10) h⟩
    · intro t ht ih y hy hn
      refine bX6_fewestWays_8 ⟨fun h => absurd h (by rw [show (10 : Int32) = nI 10 from rfl, le_nI (by omega) (by omega)]; omega), fun _ => ⟨fun h => ?_, fun h => ?_⟩⟩
      · rw [has0 _ (by omega), hy p (by omega)] at h
        refine sX6_oneWayFurther (by omega) hI hN hy (fun y' hy' => kI_i (bX6_fewestWays_34 ?_))
        rw [p1]
        refine ih y' hy' (fun i hi => ?_)
        by_cases e : i = t
        · rw [e]; exact h
        · exact hn i (by omega)
      · rw [has0 _ (by omega), Classical.not_not, hy p (by omega)] at h
        exact hR _ (Or.inr ⟨t, by omega, rfl, h, hn⟩)
  exact loop 0 (by omega) _ (rs_0 s x hf) (fun i hi => absurd hi (Nat.not_lt_zero i))
end
