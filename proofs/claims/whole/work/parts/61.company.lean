-- company
theorem pop_mono : ∀ n c m, (∀ j, c.testBit j = true → m.testBit j = true) → pop n c ≤ pop n m ∧ (pop n c = pop n m → c % 2 ^ n = m % 2 ^ n)
  | 0, c, m, _ => ⟨Nat.le_refl _, fun _ => by rw [Nat.pow_zero, Nat.mod_one, Nat.mod_one]⟩
  | n + 1, c, m, h => by
    have ih := pop_mono n (c / 2) (m / 2) (fun j hj => by
      rw [Nat.testBit_div_two] at hj ⊢
      exact h (j + 1) hj)
    have h0 : c % 2 ≤ m % 2 := by
      have h1 := h 0
      rw [Nat.testBit_zero, Nat.testBit_zero, decide_eq_true_eq, decide_eq_true_eq] at h1
      omega
    simp only [pop]
    refine ⟨by omega, fun e => ?_⟩
    have e1 := ih.2 (by omega)
    rw [Nat.pow_succ, Nat.mul_comm, Nat.mod_mul, Nat.mod_mul, e1, show c % 2 = m % 2 by omega]
def Qf (s : Nat → Int32) (m f p c : Nat) : Prop := (∀ j, c.testBit j = true → m.testBit j = true) ∧ ∃ t, Rc s (nI c) f t p
def Bst (s : Nat → Int32) (m f p n b : Nat) : Prop := b < n ∧ Qf s m f p b ∧ ∀ c, c < n → Qf s m f p c → pop 14 b < pop 14 c ∨ (pop 14 b = pop 14 c ∧ b ≤ c)
def Cb (s : Nat → Int32) (m f p : Nat) (a : Int32) : Prop := ((∀ c, c < m + 1 → ¬ Qf s m f p c) ∧ a = -1000000005) ∨ ∃ b, Bst s m f p (m + 1) b ∧ a = nI b
def Cp (s : Nat → Int32) (m f p : Nat) (q a : Int32) : Prop := ((∀ c, c < m + 1 → ¬ Qf s m f p c) ∧ a = -1000000005) ∨ ∃ b, Bst s m f p (m + 1) b ∧ a = if q = 0 then nI b else nI (pop 14 b)
theorem bst_uq {s : Nat → Int32} {m f p n b c : Nat} (h : Bst s m f p n b) (g : Bst s m f p n c) : b = c := by
  rcases h.2.2 c g.1 g.2.1 with h1 | h1 <;> rcases g.2.2 b h.1 h.2.1 with g1 | g1 <;> omega
theorem cp_uq {s : Nat → Int32} {m f p : Nat} {q a c : Int32} (h : Cp s m f p q a) (g : Cp s m f p q c) : a = c := by
  rcases h with ⟨h1, h2⟩ | ⟨b, h1, h2⟩
  · rcases g with ⟨-, g2⟩ | ⟨b2, g1, -⟩
    · rw [h2, g2]
    · exact absurd g1.2.1 (h1 b2 g1.1)
  · rcases g with ⟨g1, -⟩ | ⟨b2, g1, g2⟩
    · exact absurd h1.2.1 (g1 b h1.1)
    · rw [h2, g2, bst_uq h1 g1]
theorem sub_is {c m : Nat} (hc : c < 2 ^ 14) (hm : m < 2 ^ 14) : (nI c &&& (nI m ^^^ (-1)) = 0) ↔ ∀ j, c.testBit j = true → m.testBit j = true := by
  have big : ∀ j, 32 ≤ j → c.testBit j = false := fun j hj => Nat.testBit_lt_two_pow (Nat.lt_of_lt_of_le hc (Nat.pow_le_pow_right (by decide) (by omega)))
  constructor
  · intro h j hj
    by_cases q : j < 32
    · by_cases g : m.testBit j = true
      · exact g
      · have hb : bt (nI c &&& (nI m ^^^ (-1))) j = true := by
          rw [b_and, b_xor, bt_neg q, bt_nI q, bt_nI q, hj]
          simp at g
          simp [g]
        rw [h] at hb
        exact absurd hb (bt_z j)
    · rw [big j (by omega)] at hj
      exact absurd hj Bool.false_ne_true
  · intro h
    apply b_ext
    intro j hj
    have hz : bt 0 j = false := by
      have := bt_z j
      rwa [Bool.not_eq_true] at this
    rw [b_and, b_xor, bt_neg hj, bt_nI hj, bt_nI hj, hz]
    have := h j
    cases hc : c.testBit j <;> cases hm : m.testBit j <;> simp_all
theorem sub_bt {c m : Nat} (h : ∀ j, c.testBit j = true → m.testBit j = true) : ∀ k, bt (nI c) k = true → bt (nI m) k = true := by
  intro k hk
  by_cases q : k < 32
  · rw [bt_nI q] at hk ⊢
    exact h k hk
  · rw [b_big (by omega)] at hk
    exact absurd hk Bool.false_ne_true
theorem sub_lt {c m : Nat} (hc : c < 2 ^ 14) (hm : m < 2 ^ 14) (h : ∀ j, c.testBit j = true → m.testBit j = true) (hne : c ≠ m) : pop 14 c < pop 14 m := by
  obtain ⟨h1, h2⟩ := pop_mono 14 c m h
  by_cases e : pop 14 c = pop 14 m
  · have := h2 e
    rw [Nat.mod_eq_of_lt hc, Nat.mod_eq_of_lt hm] at this
    exact absurd this hne
  · omega
theorem rc_z {s : Nat → Int32} {f : Nat} : ∀ t p, Rc s (nI 0) f t p → p = f
  | 0, p, h => h
  | t + 1, p, h => by
    rcases h with h | ⟨q, -, -, k, -, h, -⟩
    · exact rc_z t p h
    · exact absurd h (bt_z k)
theorem no_is (n : Nat) (h : n < 2 ^ 31) : nI n ≠ -1000000005 := by
  intro e
  have := zl n h
  rw [e] at this
  exact absurd this (by decide)
theorem bst_n {s : Nat → Int32} {m f p n b : Nat} (h : Bst s m f p n b) (g : Qf s m f p n → pop 14 b < pop 14 n ∨ pop 14 b = pop 14 n) : Bst s m f p (n + 1) b := by
  refine ⟨by have := h.1; omega, h.2.1, fun c hc hq => ?_⟩
  by_cases e : c = n
  · rw [e] at hq ⊢
    have := h.1
    rcases g hq with g | g
    · exact Or.inl g
    · exact Or.inr ⟨g, by omega⟩
  · exact h.2.2 c (by omega) hq
section
variable {l : Launch} {G : GT} {D : Nat} {M : Mem} {R : Option Value → Mem → Prop} {b : Nat} {s : Nat → Int32}
theorem sX6_fewestOf {m f p : Nat} (hD : 12 ≤ D) (hI : Inv s) (hN : NX M s) (hm : m < 256) (hf : f < 10) (hp : p < 10) (hR : ∀ a, Cb s m f p a → R (some (.int a)) M) : Tr l G D mX6_fewestOf [.ref (G.1 60), .int (nI m), .int (nI f), .int (nI p)] M R := by
  obtain ⟨d, rfl⟩ := dE (show 4 ≤ D by omega)
  refine tX6_fewestOf ⟨fun h => ?_, fun h => ?_⟩
  · have e := (nI_eq (by omega) (by omega)).mp h
    refine hR 0 (Or.inr ⟨0, ⟨by omega, ⟨fun j hj => ?_, 0, e.symm⟩, fun c _ _ => ?_⟩, rfl⟩)
    · rw [Nat.zero_testBit] at hj; exact absurd hj Bool.false_ne_true
    · rw [pop_0]; omega
  · have hne : f ≠ p := fun e => h (by rw [e])
    refine sX6_fewestWays (by omega) hI hN hf hp (fun a ha => kI_i (bX6_fewestOf_14 ⟨fun h1 => ?_, fun h1 => ?_⟩))
    · rcases ha with ⟨-, h2⟩ | ⟨t, ht, h2, -⟩
      · exact hR _ (Or.inl ⟨fun c _ hq => by
          obtain ⟨q1, t, q2⟩ := hq
          exact h2 t (rc_more (sub_bt q1) t p q2), rfl⟩)
      · rw [h2] at h1; exact absurd h1 (no_is t (by omega))
    · have hQm : Qf s m f p m := by
        rcases ha with ⟨h2, -⟩ | ⟨t, ht, -, h2⟩
        · exact absurd h2 h1
        · exact ⟨fun _ hj => hj, t, h2.1⟩
      have hm1 : 1 ≤ m := by
        obtain ⟨-, t, ht⟩ := hQm
        by_cases e : m = 0
        · rw [e] at ht; exact absurd (rc_z t p ht).symm hne
        · omega
      have hQ0 : ¬ Qf s m f p 0 := fun hq => by
        obtain ⟨-, t, ht⟩ := hq
        exact hne (rc_z t p ht).symm
      have loop : ∀ i, i ≤ m - 1 → ∀ b, b < 256 → ((b = m ∧ ∀ c, c < i + 1 → ¬ Qf s m f p c) ∨ Bst s m f p (i + 1) b) → At l G (d + 4) mX6_fewestOf 28 [some (.ref (G.1 60)), some (.int (nI m)), some (.int (nI f)), some (.int (nI p)), some (.int (nI b)), some (.int (nI (i + 1))), none] [] M R := by
        refine upL (fun i => ∀ b, b < 256 → ((b = m ∧ ∀ c, c < i + 1 → ¬ Qf s m f p c) ∨ Bst s m f p (i + 1) b) → At l G (d + 4) mX6_fewestOf 28 [some (.ref (G.1 60)), some (.int (nI m)), some (.int (nI f)), some (.int (nI p)), some (.int (nI b)), some (.int (nI (i + 1))), none] [] M R) (m - 1) ?_ ?_
        · intro b hb hB
          rw [show m - 1 + 1 = m by omega] at hB ⊢
          refine bX6_fewestOf_28 ⟨fun _ => hR _ (Or.inr ⟨b, ?_, rfl⟩), fun h => absurd (by rw [le_nI (by omega) (by omega)]; exact Nat.le_refl _) h⟩
          rcases hB with ⟨e, hn⟩ | hB
          · rw [e]
            refine ⟨by omega, hQm, fun c hc hq => ?_⟩
            by_cases q : c = m
            · rw [q]; exact Or.inr ⟨rfl, Nat.le_refl _⟩
            · exact absurd hq (hn c (by omega))
          · refine bst_n hB (fun _ => ?_)
            have := (pop_mono 14 b m hB.2.1.1).1
            omega
        · intro i hi ih b hb hB
          have p5 := pop_le 14 b
          have p6 := pop_le 14 (i + 1)
          refine bX6_fewestOf_28 ⟨fun h => absurd h (by rw [le_nI (by omega) (by omega)]; omega), fun _ => ⟨fun hs => ?_, fun hs => ?_⟩⟩
          · rw [sub_is (by omega) (by omega)] at hs
            refine sJ6_bitCount (by omega) (by omega) (kI_i (bX6_fewestOf_48 ?_))
            refine sJ6_bitCount (by omega) (by omega) (kI_i (bX6_fewestOf_53 ⟨fun hc => ?_, fun hc => ?_⟩))
            · rw [le_nI (by omega) (by omega)] at hc
              rw [p1]
              refine ih b hb (Or.inr ?_)
              rcases hB with ⟨e, -⟩ | hB
              · have := sub_lt (by omega) (by omega) hs (show i + 1 ≠ m by omega)
                rw [e] at hc
                omega
              · exact bst_n hB (fun _ => by omega)
            · rw [le_nI (by omega) (by omega)] at hc
              refine sX6_fewestWays (by omega) hI hN hf hp (fun a2 ha2 => kI_i (bX6_fewestOf_76 ⟨fun h2 => ?_, fun h2 => ?_⟩))
              · have hnq : ¬ Qf s m f p (i + 1) := by
                  rcases ha2 with ⟨-, h3⟩ | ⟨t, ht, h3, -⟩
                  · exact fun hq => hq.2.elim (fun t ht => h3 t ht)
                  · rw [h3] at h2; exact absurd h2 (no_is t (by omega))
                rw [p1]
                refine ih b hb ?_
                rcases hB with ⟨e, hn⟩ | hB
                · refine Or.inl ⟨e, fun c hc => ?_⟩
                  by_cases q : c = i + 1
                  · rw [q]; exact hnq
                  · exact hn c (by omega)
                · exact Or.inr (bst_n hB (fun hq => absurd hq hnq))
              · have hq : Qf s m f p (i + 1) := by
                  rcases ha2 with ⟨h3, -⟩ | ⟨t, ht, -, h3⟩
                  · exact absurd h3 h2
                  · exact ⟨hs, t, h3.1⟩
                rw [p1]
                refine ih (i + 1) (by omega) (Or.inr ⟨by omega, hq, fun c hc hqc => ?_⟩)
                by_cases q : c = i + 1
                · rw [q]; exact Or.inr ⟨rfl, Nat.le_refl _⟩
                · rcases hB with ⟨-, hn⟩ | hB
                  · exact absurd hqc (hn c (by omega))
                  · have := hB.2.2 c (by omega) hqc
                    exact Or.inl (by omega)
          · rw [sub_is (by omega) (by omega)] at hs
            have hnq : ¬ Qf s m f p (i + 1) := fun hq => hs hq.1
            rw [p1]
            refine ih b hb ?_
            rcases hB with ⟨e, hn⟩ | hB
            · refine Or.inl ⟨e, fun c hc => ?_⟩
              by_cases q : c = i + 1
              · rw [q]; exact hnq
              · exact hn c (by omega)
            · exact Or.inr (bst_n hB (fun hq => absurd hq hnq))
      exact loop 0 (Nat.zero_le _) m (by omega) (Or.inl ⟨rfl, fun c hc => by rw [show c = 0 by omega]; exact hQ0⟩)
theorem X_company {f p q : Int32} (hD : 40 ≤ D) (hRel : Rel M) (hbad : ¬ (Rg 10 f ∧ Rg 10 p ∧ (q = 0 ∨ q = 1)) → R (some (.int (-1000000001))) M) (hR : Rg 10 f ∧ Rg 10 p ∧ (q = 0 ∨ q = 1) → ∀ M' a, Ag scX M M' → Cp (M 101) (ix (thS (M 101) f)) (ix f) (ix p) q a → R (some (.int a)) M') : Tr l G D mX7_company [.ref (G.1 0), .int f, .int p, .int q] M R := by
  obtain ⟨d, rfl⟩ := dE (show 4 ≤ D by omega)
  have hL := hRel.1.1.1
  have hI := hRel.2.1.1
  have hp8 := hI.1.2
  have h256 := p2_le hp8
  by_cases hc : Rg 10 f ∧ Rg 10 p ∧ (q = 0 ∨ q = 1)
  · have hR2 := hR hc
    obtain ⟨f, hf, rfl⟩ := hc.1.ex
    obtain ⟨p, hp, rfl⟩ := hc.2.1.ex
    obtain ⟨m, hm, em⟩ := small_bits (x := thS (M 101) (nI f)) (n := np (M 101)) (by omega) (fun j hj => by
      unfold thS at hj
      rw [bt_bs _ _ _ (by omega), Bool.and_eq_true, decide_eq_true_eq] at hj
      exact hj.1)
    rw [ix_nI (show f < 2 ^ 31 by omega), ix_nI (show p < 2 ^ 31 by omega), em, ix_nI (show m < 2 ^ 31 by omega)] at hR2
    refine tX7_company ⟨fun h1 => (absurd hc (fun hc => by simp (disch := omega) only [ne_eq, not_true_eq_false, Rg, tlt, tle, teq, tnI, ts1, tl0, tl1, tl2, tl3, tl4, tl5, tl6, tl7, tl8, tl9, tl10, tl11, tl12, tl13, tl14, tl15, tl16, tl24, tl30, tl33, tl60, tl84, tl96, tl99, tl100, tl200, tlm1, t44] at h1 hc <;> omega)), fun h2 => ⟨fun h3 => (absurd hc (fun hc => by simp (disch := omega) only [ne_eq, not_true_eq_false, Rg, tlt, tle, teq, tnI, ts1, tl0, tl1, tl2, tl3, tl4, tl5, tl6, tl7, tl8, tl9, tl10, tl11, tl12, tl13, tl14, tl15, tl16, tl24, tl30, tl33, tl60, tl84, tl96, tl99, tl100, tl200, tlm1, t44] at h2 h3 hc <;> omega)), fun h4 => ⟨fun h5 => (absurd hc (fun hc => by simp (disch := omega) only [ne_eq, not_true_eq_false, Rg, tlt, tle, teq, tnI, ts1, tl0, tl1, tl2, tl3, tl4, tl5, tl6, tl7, tl8, tl9, tl10, tl11, tl12, tl13, tl14, tl15, tl16, tl24, tl30, tl33, tl60, tl84, tl96, tl99, tl100, tl200, tlm1, t44] at h2 h4 h5 hc <;> omega)), fun h6 => ⟨fun h7 => (absurd hc (fun hc => by simp (disch := omega) only [ne_eq, not_true_eq_false, Rg, tlt, tle, teq, tnI, ts1, tl0, tl1, tl2, tl3, tl4, tl5, tl6, tl7, tl8, tl9, tl10, tl11, tl12, tl13, tl14, tl15, tl16, tl24, tl30, tl33, tl60, tl84, tl96, tl99, tl100, tl200, tlm1, t44] at h2 h4 h6 h7 hc <;> omega)), fun h8 => ⟨fun h9 => (absurd hc (fun hc => by simp (disch := omega) only [ne_eq, not_true_eq_false, Rg, tlt, tle, teq, tnI, ts1, tl0, tl1, tl2, tl3, tl4, tl5, tl6, tl7, tl8, tl9, tl10, tl11, tl12, tl13, tl14, tl15, tl16, tl24, tl30, tl33, tl60, tl84, tl96, tl99, tl100, tl200, tlm1, t44] at h2 h4 h6 h8 h9 hc <;> omega)), fun h10 => ⟨fun h11 => ?_, fun h12 => (absurd hc (fun hc => by simp (disch := omega) only [ne_eq, not_true_eq_false, Rg, tlt, tle, teq, tnI, ts1, tl0, tl1, tl2, tl3, tl4, tl5, tl6, tl7, tl8, tl9, tl10, tl11, tl12, tl13, tl14, tl15, tl16, tl24, tl30, tl33, tl60, tl84, tl96, tl99, tl100, tl200, tlm1, t44] at h2 h4 h6 h8 h10 h12 hc <;> omega))⟩⟩⟩⟩⟩⟩
    refine sX6_look ld30 (by omega) hI hL (fun M1 hA1 hN => kV_i (bX7_company_37 ?_))
    have hL1 : LR M1 30 (M 101) := hL.of (fun j hj => hA1 _ (by simp only [List.mem_cons, List.not_mem_nil, or_false]; omega))
    refine sX1_peopleIn ld30 (by omega) hI hL1 (kI_i (bX7_company_49 ?_))
    rw [em]
    refine sX6_fewestOf (by omega) hI hN (by omega) hf hp (fun a ha => kI_i (bX7_company_54 ⟨fun h => ?_, fun h => ⟨fun h1 => ?_, fun h1 => ?_⟩⟩))
    · refine hR2 M1 a (hA1.sub (by decide)) ?_
      rcases ha with h1 | ⟨b, h1, h2⟩
      · exact Or.inl h1
      · exact Or.inr ⟨b, h1, by rw [if_pos h]; exact h2⟩
    · refine hR2 M1 a (hA1.sub (by decide)) ?_
      rcases ha with h2 | ⟨b, h2, h3⟩
      · exact Or.inl h2
      · rw [h3] at h1
        exact absurd h1 (no_is b (by have := h2.1; omega))
    · rcases ha with ⟨-, h2⟩ | ⟨b, h2, h3⟩
      · exact absurd h2 h1
      · rw [h3]
        have := h2.1
        exact sJ6_bitCount (by omega) (by omega) (kI_i (bX7_company_77 (hR2 M1 _ (hA1.sub (by decide)) (Or.inr ⟨b, h2, by rw [if_neg h]⟩))))
  · have hB := hbad hc
    exact tX7_company ⟨fun h1 => (hB), fun h2 => ⟨fun h3 => (hB), fun h4 => ⟨fun h5 => (hB), fun h6 => ⟨fun h7 => (hB), fun h8 => ⟨fun h9 => (hB), fun h10 => ⟨fun h11 => ((hc (by simp (disch := omega) only [ne_eq, not_true_eq_false, Rg, tlt, tle, teq, tnI, ts1, tl0, tl1, tl2, tl3, tl4, tl5, tl6, tl7, tl8, tl9, tl10, tl11, tl12, tl13, tl14, tl15, tl16, tl24, tl30, tl33, tl60, tl84, tl96, tl99, tl100, tl200, tlm1, t44] at h2 h4 h6 h8 h10 h11 ⊢ <;> omega)).elim), fun h12 => (hB)⟩⟩⟩⟩⟩⟩
theorem M_company {f p q : Int32} (hD : 40 ≤ D) (hIS : IS M) (hbad : ¬ (Rg 10 f ∧ Rg 10 p ∧ (q = 0 ∨ q = 1)) → R (some (.int (-1000000001))) M) (hR : Rg 10 f ∧ Rg 10 p ∧ (q = 0 ∨ q = 1) → ∀ M' a, Ag scY M M' → M' 101 = M 101 → Cp (M 101) (ix (thS (M 101) f)) (ix f) (ix p) q a → R (some (.int a)) M') : Tr l G D mX8_company [.ref (G.1 100), .int f, .int p, .int q] M R := by
  obtain ⟨d, rfl⟩ := dE (show 4 ≤ D by omega)
  have hI := hIS.1.1
  have hp8 := hI.1.2
  have h256 := p2_le hp8
  by_cases hc : Rg 10 f ∧ Rg 10 p ∧ (q = 0 ∨ q = 1)
  · have hR2 := hR hc
    obtain ⟨f, hf, rfl⟩ := hc.1.ex
    obtain ⟨p, hp, rfl⟩ := hc.2.1.ex
    obtain ⟨m, hm, em⟩ := small_bits (x := thS (M 101) (nI f)) (n := np (M 101)) (by omega) (fun j hj => by
      unfold thS at hj
      rw [bt_bs _ _ _ (by omega), Bool.and_eq_true, decide_eq_true_eq] at hj
      exact hj.1)
    rw [ix_nI (show f < 2 ^ 31 by omega), ix_nI (show p < 2 ^ 31 by omega), em, ix_nI (show m < 2 ^ 31 by omega)] at hR2
    refine tX8_company ⟨fun h1 => ⟨fun h2 => ⟨fun h3 => ⟨fun h4 => ⟨fun h5 => ⟨fun h6 => ?_, fun h7 => (absurd hc (fun hc => by simp (disch := omega) only [ne_eq, not_true_eq_false, Rg, tlt, tle, teq, tnI, ts1, tl0, tl1, tl2, tl3, tl4, tl5, tl6, tl7, tl8, tl9, tl10, tl11, tl12, tl13, tl14, tl15, tl16, tl24, tl30, tl33, tl60, tl84, tl96, tl99, tl100, tl200, tlm1, t44] at h1 h2 h3 h4 h5 h7 hc <;> omega))⟩, fun h8 => (absurd hc (fun hc => by simp (disch := omega) only [ne_eq, not_true_eq_false, Rg, tlt, tle, teq, tnI, ts1, tl0, tl1, tl2, tl3, tl4, tl5, tl6, tl7, tl8, tl9, tl10, tl11, tl12, tl13, tl14, tl15, tl16, tl24, tl30, tl33, tl60, tl84, tl96, tl99, tl100, tl200, tlm1, t44] at h1 h2 h3 h4 h8 hc <;> omega))⟩, fun h9 => (absurd hc (fun hc => by simp (disch := omega) only [ne_eq, not_true_eq_false, Rg, tlt, tle, teq, tnI, ts1, tl0, tl1, tl2, tl3, tl4, tl5, tl6, tl7, tl8, tl9, tl10, tl11, tl12, tl13, tl14, tl15, tl16, tl24, tl30, tl33, tl60, tl84, tl96, tl99, tl100, tl200, tlm1, t44] at h1 h2 h3 h9 hc <;> omega))⟩, fun h10 => (absurd hc (fun hc => by simp (disch := omega) only [ne_eq, not_true_eq_false, Rg, tlt, tle, teq, tnI, ts1, tl0, tl1, tl2, tl3, tl4, tl5, tl6, tl7, tl8, tl9, tl10, tl11, tl12, tl13, tl14, tl15, tl16, tl24, tl30, tl33, tl60, tl84, tl96, tl99, tl100, tl200, tlm1, t44] at h1 h2 h10 hc <;> omega))⟩, fun h11 => (absurd hc (fun hc => by simp (disch := omega) only [ne_eq, not_true_eq_false, Rg, tlt, tle, teq, tnI, ts1, tl0, tl1, tl2, tl3, tl4, tl5, tl6, tl7, tl8, tl9, tl10, tl11, tl12, tl13, tl14, tl15, tl16, tl24, tl30, tl33, tl60, tl84, tl96, tl99, tl100, tl200, tlm1, t44] at h1 h11 hc <;> omega))⟩, fun h12 => (absurd hc (fun hc => by simp (disch := omega) only [ne_eq, not_true_eq_false, Rg, tlt, tle, teq, tnI, ts1, tl0, tl1, tl2, tl3, tl4, tl5, tl6, tl7, tl8, tl9, tl10, tl11, tl12, tl13, tl14, tl15, tl16, tl24, tl30, tl33, tl60, tl84, tl96, tl99, tl100, tl200, tlm1, t44] at h12 hc <;> omega))⟩
    refine sX8_those (by omega) hI.1 (kI_i (bX8_company_32 ?_))
    rw [em]
    have loop : ∀ v, v ≤ m + 1 → ∀ (M1 : Mem) (b6 : Int32) (b5 : Int32), Ag [112] M M1 → ((b5 = -1 ∧ b6 = 9 ∧ ∀ c, c < v → ¬ Qf (M 101) m f p c) ∨ ∃ b, b5 = nI b ∧ b6 = nI (pop 14 b) ∧ Bst (M 101) m f p v b) → At l G (d + 4) mX8_company 44 [some (.ref (G.1 100)), some (.int (nI f)), some (.int (nI p)), some (.int q), some (.int (nI m)), some (.int b5), some (.int b6), some (.int (nI v))] [] M1 R := by
      refine upL (fun v => ∀ (M1 : Mem) (b6 : Int32) (b5 : Int32), Ag [112] M M1 → ((b5 = -1 ∧ b6 = 9 ∧ ∀ c, c < v → ¬ Qf (M 101) m f p c) ∨ ∃ b, b5 = nI b ∧ b6 = nI (pop 14 b) ∧ Bst (M 101) m f p v b) → At l G (d + 4) mX8_company 44 [some (.ref (G.1 100)), some (.int (nI f)), some (.int (nI p)), some (.int q), some (.int (nI m)), some (.int b5), some (.int b6), some (.int (nI v))] [] M1 R) (m + 1) ?_ ?_
      · intro M1 b6 b5 hA hB
        have hR3 := hR2 M1
        refine bX8_company_44 ⟨fun _ => ?_, fun h => absurd (by rw [lt_nI (by omega) (by omega)]; omega) h⟩
        rcases hB with ⟨h1, h2, h3⟩ | ⟨b, h1, h2, h3⟩
        · subst h1
          exact ⟨fun h => absurd h (by decide), fun _ => hR3 _ (hA.sub (by decide)) (hA 101 (by decide)) (Or.inl ⟨h3, rfl⟩)⟩
        · rw [h1, h2]
          have := h3.1
          exact ⟨fun _ => ⟨fun h => hR3 _ (hA.sub (by decide)) (hA 101 (by decide)) (Or.inr ⟨b, h3, by rw [if_pos h]⟩), fun h => hR3 _ (hA.sub (by decide)) (hA 101 (by decide)) (Or.inr ⟨b, h3, by rw [if_neg h]⟩)⟩, fun h => absurd (zl b (by omega)) h⟩
      · intro v hv ih M1 b6 b5 hA hB
        have e1 : M1 101 = M 101 := hA 101 (by decide)
        have p6 := pop_le 14 v
        have next : ∀ (M2 : Mem), Ag [112] M M2 → ¬ Qf (M 101) m f p v → At l G (d + 4) mX8_company 44 [some (.ref (G.1 100)), some (.int (nI f)), some (.int (nI p)), some (.int q), some (.int (nI m)), some (.int b5), some (.int b6), some (.int (nI (v + 1)))] [] M2 R := by
          intro M2 hA2 hnq
          refine ih M2 b6 b5 hA2 ?_
          rcases hB with ⟨h1, h2, h3⟩ | ⟨b, h1, h2, h3⟩
          · refine Or.inl ⟨h1, h2, fun c hc => ?_⟩
            by_cases q : c = v
            · rw [q]; exact hnq
            · exact h3 c (by omega)
          · exact Or.inr ⟨b, h1, h2, bst_n h3 (fun hq => absurd hq hnq)⟩
        refine bX8_company_44 ⟨fun h => absurd h (by rw [lt_nI (by omega) (by omega)]; omega), fun _ => ⟨fun hs => ?_, fun hs => ?_⟩⟩
        · rw [sub_is (by omega) (by omega)] at hs
          refine sX8_bits (by omega) (by omega) (kI_i (bX8_company_66 ⟨fun hc => ?_, fun hc => ?_⟩))
          · rw [p1]
            rcases hB with ⟨h1, h2, h3⟩ | ⟨b, h1, h2, h3⟩
            · rw [h2, show (9 : Int32) = nI 9 from rfl, le_nI (by omega) (by omega)] at hc
              have p8 : pop 14 v ≤ 8 := by
                by_cases e : v = 255
                · rw [e]; exact Nat.le_of_eq (pop_full 8 (by decide))
                · exact Nat.le_of_lt (pop_sub (n := 8) (by decide) (by omega))
              omega
            · have p5 := pop_le 14 b
              rw [h2, le_nI (by omega) (by omega)] at hc
              exact ih M1 b6 b5 hA (Or.inr ⟨b, h1, h2, bst_n h3 (fun _ => by omega)⟩)
          · refine sX8_journeyOf (f := f) (p := p) (by omega) (by rw [e1]; exact hI) hf hp (fun M2 a hA2 ha => kI_i (bX8_company_79 ⟨fun h2 => ?_, fun h2 => ?_⟩))
            · rw [p1]
              rw [e1] at ha
              refine next M2 (hA.tr hA2) (fun hq => ?_)
              rcases ha with ⟨-, h4⟩ | ⟨t, ht, h4, -⟩
              · exact hq.2.elim (fun t ht => h4 t ht)
              · rw [h4] at h2
                exact absurd (zl t (by omega)) (Int32.not_le.mpr h2)
            · rw [e1] at ha
              have hq : Qf (M 101) m f p v := by
                rcases ha with ⟨h4, -⟩ | ⟨t, ht, -, h4⟩
                · rw [h4] at h2; exact absurd (by decide : (-1 : Int32) < 0) h2
                · exact ⟨hs, t, h4.1⟩
              refine sX8_bits (by omega) (by omega) (kI_i (bX8_company_91 ?_))
              rw [p1]
              refine ih M2 _ _ (hA.tr hA2) (Or.inr ⟨v, rfl, rfl, by omega, hq, fun c hcc hqc => ?_⟩)
              by_cases q : c = v
              · rw [q]; exact Or.inr ⟨rfl, Nat.le_refl _⟩
              · rcases hB with ⟨-, -, h3⟩ | ⟨b, h4, h5, h3⟩
                · exact absurd hqc (h3 c (by omega))
                · have p5 := pop_le 14 b
                  rw [h5, le_nI (by omega) (by omega)] at hc
                  have := h3.2.2 c (by omega) hqc
                  exact Or.inl (by omega)
        · rw [sub_is (by omega) (by omega)] at hs
          rw [p1]
          exact next M1 hA (fun hq => hs hq.1)
    exact loop 0 (Nat.zero_le _) M 9 (-1) (Ag.rf _ _) (Or.inl ⟨rfl, rfl, fun c hc => absurd hc (Nat.not_lt_zero c)⟩)
  · have hB := hbad hc
    exact tX8_company ⟨fun h1 => ⟨fun h2 => ⟨fun h3 => ⟨fun h4 => ⟨fun h5 => ⟨fun h6 => ((hc (by simp (disch := omega) only [ne_eq, not_true_eq_false, Rg, tlt, tle, teq, tnI, ts1, tl0, tl1, tl2, tl3, tl4, tl5, tl6, tl7, tl8, tl9, tl10, tl11, tl12, tl13, tl14, tl15, tl16, tl24, tl30, tl33, tl60, tl84, tl96, tl99, tl100, tl200, tlm1, t44] at h1 h2 h3 h4 h5 h6 ⊢ <;> omega)).elim), fun h7 => (hB)⟩, fun h8 => (hB)⟩, fun h9 => (hB)⟩, fun h10 => (hB)⟩, fun h11 => (hB)⟩, fun h12 => (hB)⟩
end
