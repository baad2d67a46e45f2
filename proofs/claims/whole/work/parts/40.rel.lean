-- the two systems side by side
theorem tlt (a b : Int32) : a < b ↔ a.toInt < b.toInt := Int32.lt_iff_toInt_lt
theorem tle (a b : Int32) : a ≤ b ↔ a.toInt ≤ b.toInt := Int32.le_iff_toInt_le
theorem teq (a b : Int32) : a = b ↔ a.toInt = b.toInt := Int32.toInt_inj.symm
theorem tnI {n : Nat} (h : n < 2 ^ 31) : (nI n).toInt = (n : Int) := nI_toInt h
theorem ts1 {n : Nat} (h : n < 2 ^ 30) : (nI n - 1).toInt = (n : Int) - 1 := pk_sub_toInt (a := n) (b := 1) h (by decide)
theorem tl0 : (0 : Int32).toInt = 0 := by decide
theorem tl1 : (1 : Int32).toInt = 1 := by decide
theorem tl2 : (2 : Int32).toInt = 2 := by decide
theorem tl3 : (3 : Int32).toInt = 3 := by decide
theorem tl4 : (4 : Int32).toInt = 4 := by decide
theorem tl5 : (5 : Int32).toInt = 5 := by decide
theorem tl6 : (6 : Int32).toInt = 6 := by decide
theorem tl7 : (7 : Int32).toInt = 7 := by decide
theorem tl8 : (8 : Int32).toInt = 8 := by decide
theorem tl9 : (9 : Int32).toInt = 9 := by decide
theorem tl10 : (10 : Int32).toInt = 10 := by decide
theorem tl11 : (11 : Int32).toInt = 11 := by decide
theorem tl12 : (12 : Int32).toInt = 12 := by decide
theorem tl13 : (13 : Int32).toInt = 13 := by decide
theorem tl14 : (14 : Int32).toInt = 14 := by decide
theorem tl15 : (15 : Int32).toInt = 15 := by decide
theorem tl16 : (16 : Int32).toInt = 16 := by decide
theorem tl24 : (24 : Int32).toInt = 24 := by decide
theorem tl30 : (30 : Int32).toInt = 30 := by decide
theorem tl33 : (33 : Int32).toInt = 33 := by decide
theorem tl60 : (60 : Int32).toInt = 60 := by decide
theorem tl84 : (84 : Int32).toInt = 84 := by decide
theorem tl96 : (96 : Int32).toInt = 96 := by decide
theorem tl99 : (99 : Int32).toInt = 99 := by decide
theorem tl100 : (100 : Int32).toInt = 100 := by decide
theorem tl200 : (200 : Int32).toInt = 200 := by decide
theorem tlm1 : (-1 : Int32).toInt = -1 := by decide
abbrev Rg (n : Nat) (v : Int32) : Prop := 0 ≤ v.toInt ∧ v.toInt < (n : Int)
theorem Rg.ex {n : Nat} {v : Int32} (h : Rg n v) : ∃ a, a < n ∧ v = nI a := by
  refine ⟨v.toInt.toNat, by omega, ?_⟩
  have h2 := v.toInt_lt
  rw [teq, tnI (by omega)]
  omega
theorem Rg.of {n a : Nat} (h : a < n) (h2 : a < 2 ^ 31) : Rg n (nI a) := by
  show 0 ≤ (nI a).toInt ∧ (nI a).toInt < _
  rw [tnI h2]
  omega
def scX : List Nat := [6, 23, 40, 41, 42, 43, 44, 45, 46, 47, 48, 61, 62]
def scY : List Nat := [101, 103, 112, 113, 115, 116, 117, 119]
def IL (s : Nat → Int32) : Prop := Inv s ∧ ∃ w d, s 6 = nI w ∧ s 2 = nI d ∧ d ≤ 9999 ∧ w ≤ 8 * d
def RXl (M : Mem) : Prop := LR M 30 (M 101) ∧ ∀ t, t < nt (M 101) → LW M (M 101) t
def RXi (M : Mem) : Prop := M 0 5 = M 100 3 ∧ (M 100 3 = 1 → LR M 50 (M 102))
def RXt (M : Mem) : Prop := M 21 1 = M 100 15 ∧ ∀ i, i < 96 → M 22 i = M 114 i
def RXs (M : Mem) : Prop := ∀ j, j < 4 → M (70 + 2 * j) 0 = M 104 j ∧ M (70 + 2 * j) 1 = M 105 j ∧ ∀ i, i < 24 → M (70 + 2 * j + 1) i = M 106 (24 * j + i)
def RXo (M : Mem) : Prop := ∀ j, j < 5 → M (80 + 3 * j) 0 = M 107 j ∧ (M 107 j = 1 → M (80 + 3 * j) 1 = M 108 j ∧ M 109 j = woS (M (80 + 3 * j) 1) (M (80 + 3 * j) 2) ∧ (∃ a, a < 6 ∧ M 108 j = nI a) ∧ ∃ m, m < 2 ^ 14 ∧ M (80 + 3 * j) 2 = nI m) ∧ (M 107 j = 2 → M (80 + 3 * j + 1) 1 = M 110 j ∧ ∀ i, i < 24 → M (80 + 3 * j + 1 + 1) i = M 111 (24 * j + i)) ∧ (M 107 j = 3 → M (80 + 3 * j) 4 = M 108 j)
def RXw (M : Mem) : Prop := M 0 11 = M 100 30 ∧ ∀ i, i < 60 → M 63 i = M 118 i
def II (M : Mem) : Prop := M 100 3 = 0 ∨ (M 100 3 = 1 ∧ IL (M 102) ∧ nt (M 102) ≤ nt (M 101) ∧ ∀ j, 84 ≤ j → j < 84 + 200 * nt (M 102) → M 102 j = M 101 j)
def IT (M : Mem) : Prop := ∃ n, n ≤ 96 ∧ M 100 15 = nI n ∧ ∀ i, i < 96 → ∃ a, a < 256 ∧ M 114 i = nI a
def ISh (M : Mem) : Prop := ∀ j, j < 4 → (M 104 j = -1 ∨ M 104 j = 0 ∨ M 104 j = 1) ∧ ∃ n, n ≤ 24 ∧ M 105 j = nI n
def ISl (M : Mem) : Prop := ∀ j, j < 5 → (M 107 j = 0 ∨ M 107 j = 1 ∨ M 107 j = 2 ∨ M 107 j = 3) ∧ ∃ n, n ≤ 24 ∧ M 110 j = nI n
def IWt (M : Mem) : Prop := ∃ n, n ≤ 60 ∧ M 100 30 = nI n
def RX (M : Mem) : Prop := RXl M ∧ RXi M ∧ RXt M ∧ RXs M ∧ RXo M ∧ RXw M
def IS (M : Mem) : Prop := IL (M 101) ∧ II M ∧ IT M ∧ ISh M ∧ ISl M ∧ IWt M
def Rel (M : Mem) : Prop := RX M ∧ IS M
theorem Rel.xs {M : Mem} (h : Rel M) : XS M 30 (M 101) := ⟨h.1.1.1, h.2.1.1, h.1.1.2⟩
theorem Ag.at {ks : List Nat} {M M' : Mem} (h : Ag ks M M') (k : Nat) (hk : k ∉ ks) : M' k = M k := h k hk
/-- what a step leaves as it was: all but the land now -/
theorem Rel.land {M M1 M2 : Mem} {s : Nat → Int32} (h : Rel M) (h1 : Ag (scX ++ ldC 30) M M1) (hL : LR M1 30 s) (h2 : Ag scY M1 M2) (e : M2 101 = s) (hI : IL s) (ht : s 1 = M 101 1) (htx : ∀ j, 84 ≤ j → s j = M 101 j) : Rel M2 := by
  obtain ⟨⟨⟨r1, r2⟩, ⟨r3, r4⟩, ⟨r5, r6⟩, r7, r8, ⟨r9, r10⟩⟩, ⟨i1, i2, i3, i4, i5, i6⟩⟩ := h
  have a : ∀ k, k ∉ scX ++ ldC 30 → k ∉ scY → M2 k = M k := fun k hk hk2 => (h2 k hk2).trans (h1 k hk)
  have ent : nt s = nt (M 101) := by show ix (s 1) = ix (M 101 1); rw [ht]
  have hT := i1.1.2.2.1
  have h14 := hT.2.1
  have lo : ∀ k, k < 100 → M2 k = M1 k := fun k hk => h2 k (by simp [scY]; omega)
  refine ⟨⟨⟨?_, ?_⟩, ⟨?_, ?_⟩, ⟨?_, ?_⟩, ?_, ?_, ⟨?_, ?_⟩⟩, ⟨?_, ?_, ?_, ?_, ?_, ?_⟩⟩
  · rw [e]
    exact hL.of (fun j hj => lo _ (by omega))
  · intro t htt
    rw [e] at htt ⊢
    rw [ent] at htt
    have hw := LW_cong (s' := s) (fun j hj _ => htx j (by omega)) ((hT.2.2 t htt).2.2.1) (r2 t htt)
    unfold LW at hw ⊢
    rw [a 3 (by decide) (by decide), a 4 (by decide) (by decide), a 5 (by decide) (by decide), a (7 + t) (by simp [scX, ldC]; omega) (by simp [scY]; omega)]
    exact hw
  · rw [a 0 (by decide) (by decide), a 100 (by decide) (by decide)]; exact r3
  · rw [a 100 (by decide) (by decide), a 102 (by decide) (by decide)]
    intro h100
    exact (r4 h100).of (fun j hj => a _ (by simp [scX, ldC]; omega) (by simp [scY]; omega))
  · rw [a 21 (by decide) (by decide), a 100 (by decide) (by decide)]; exact r5
  · rw [a 22 (by decide) (by decide), a 114 (by decide) (by decide)]; exact r6
  · intro j hj
    rw [a (70 + 2 * j) (by simp [scX, ldC]; omega) (by simp [scY]; omega), a (70 + 2 * j + 1) (by simp [scX, ldC]; omega) (by simp [scY]; omega), a 104 (by decide) (by decide), a 105 (by decide) (by decide), a 106 (by decide) (by decide)]
    exact r7 j hj
  · intro j hj
    rw [a (80 + 3 * j) (by simp [scX, ldC]; omega) (by simp [scY]; omega), a (80 + 3 * j + 1) (by simp [scX, ldC]; omega) (by simp [scY]; omega), a (80 + 3 * j + 1 + 1) (by simp [scX, ldC]; omega) (by simp [scY]; omega), a 107 (by decide) (by decide), a 108 (by decide) (by decide), a 109 (by decide) (by decide), a 110 (by decide) (by decide), a 111 (by decide) (by decide)]
    exact r8 j hj
  · rw [a 0 (by decide) (by decide), a 100 (by decide) (by decide)]; exact r9
  · rw [a 63 (by decide) (by decide), a 118 (by decide) (by decide)]; exact r10
  · rw [e]; exact hI
  · unfold II
    rw [a 100 (by decide) (by decide), a 102 (by decide) (by decide), e, ent]
    rcases i2 with q | ⟨q1, q2, q3, q4⟩
    · exact Or.inl q
    · exact Or.inr ⟨q1, q2, q3, fun j hj hj2 => (q4 j hj hj2).trans (htx j hj).symm⟩
  · unfold IT
    rw [a 100 (by decide) (by decide), a 114 (by decide) (by decide)]; exact i3
  · unfold ISh
    rw [a 104 (by decide) (by decide), a 105 (by decide) (by decide)]; exact i4
  · unfold ISl
    rw [a 107 (by decide) (by decide), a 110 (by decide) (by decide)]; exact i5
  · unfold IWt
    rw [a 100 (by decide) (by decide)]; exact i6
theorem Rel.same {M M1 M2 : Mem} (h : Rel M) (h1 : Ag scX M M1) (h2 : Ag scY M1 M2) (e : M2 101 = M1 101) : Rel M2 := by
  have e2 : M1 101 = M 101 := h1 101 (by decide)
  refine h.land (s := M 101) (h1.sub (fun k hk => List.mem_append_left _ hk)) (h.1.1.1.of (fun j hj => h1 _ ?_)) h2 (e.trans e2) h.2.1 rfl (fun _ _ => rfl)
  simp only [scX, List.mem_cons, List.not_mem_nil, or_false]
  omega
theorem IS.hi {M M1 : Mem} (h : IS M) (h1 : ∀ k, 100 ≤ k → M1 k = M k) : IS M1 := by
  obtain ⟨i1, i2, i3, i4, i5, i6⟩ := h
  refine ⟨by rw [h1 101 (by decide)]; exact i1, ?_, ?_, ?_, ?_, ?_⟩
  · unfold II; rw [h1 100 (by decide), h1 101 (by decide), h1 102 (by decide)]; exact i2
  · unfold IT; rw [h1 100 (by decide), h1 114 (by decide)]; exact i3
  · unfold ISh; rw [h1 104 (by decide), h1 105 (by decide)]; exact i4
  · unfold ISl; rw [h1 107 (by decide), h1 110 (by decide)]; exact i5
  · unfold IWt; rw [h1 100 (by decide)]; exact i6
theorem Ag.hi {M M1 : Mem} (h : Ag (scX ++ ldC 30) M M1) : ∀ k, 100 ≤ k → M1 k = M k := fun k hk => h k (by simp [scX, ldC]; omega)
