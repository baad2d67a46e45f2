def bt (x : Int32) (i : Nat) : Bool := x.toBitVec.getLsbD i
theorem b_ext {x y : Int32} (h : ∀ i, i < 32 → bt x i = bt y i) : x = y := Int32.toBitVec_inj.mp (BitVec.eq_of_getLsbD_eq (fun i hi => h i hi))
theorem b_or (x y : Int32) (i : Nat) : bt (x ||| y) i = (bt x i || bt y i) := by unfold bt; rw [Int32.toBitVec_or, BitVec.getLsbD_or]
theorem b_and (x y : Int32) (i : Nat) : bt (x &&& y) i = (bt x i && bt y i) := by unfold bt; rw [Int32.toBitVec_and, BitVec.getLsbD_and]
theorem b_xor (x y : Int32) (i : Nat) : bt (x ^^^ y) i = (bt x i ^^ bt y i) := by unfold bt; rw [Int32.toBitVec_xor, BitVec.getLsbD_xor]
theorem b_big {x : Int32} {i : Nat} (h : 32 ≤ i) : bt x i = false := BitVec.getLsbD_of_ge _ _ h
theorem b_255 (i : Nat) : bt 255 i = decide (i < 8) := by
  rcases Nat.lt_or_ge i 32 with h | h
  · exact (by decide +kernel : ∀ i, i < 32 → bt 255 i = decide (i < 8)) i h
  · rw [b_big h, decide_eq_false (by omega)]
theorem b_65535 (i : Nat) : bt 65535 i = decide (i < 16) := by
  rcases Nat.lt_or_ge i 32 with h | h
  · exact (by decide +kernel : ∀ i, i < 32 → bt 65535 i = decide (i < 16)) i h
  · rw [b_big h, decide_eq_false (by omega)]
theorem b_m1 : ∀ i, i < 32 → bt (-1) i = true := by decide +kernel
theorem b_0 (i : Nat) : bt 0 i = false := BitVec.getLsbD_zero
theorem s_l : ∀ n, n < 32 → ((nI n &&& 31).toBitVec.smod 32).toNat = n := by decide +kernel
theorem s_u : ∀ n, n < 32 → (((nI n).toUInt32 &&& Int32.toUInt32 31).toBitVec % 32).toNat = n := by decide +kernel
theorem b_shl (n : Nat) (hn : n < 32) (x : Int32) {i : Nat} (hi : i < 32) : bt (x <<< (nI n &&& 31)) i = (decide (n ≤ i) && bt x (i - n)) := by
  unfold bt
  rw [Int32.toBitVec_shiftLeft]
  show (x.toBitVec <<< ((nI n &&& 31).toBitVec.smod 32).toNat).getLsbD i = _
  rw [s_l n hn, BitVec.getLsbD_shiftLeft]
  rcases Nat.lt_or_ge i n with h | h
  · simp [h, Nat.not_le.mpr h]
  · simp [hi, h, Nat.not_lt.mpr h]
theorem b_ushr (n : Nat) (hn : n < 32) (x : Int32) (i : Nat) : bt ((x.toUInt32 >>> ((nI n).toUInt32 &&& Int32.toUInt32 31)).toInt32) i = bt x (n + i) := by
  show (x.toUInt32 >>> ((nI n).toUInt32 &&& Int32.toUInt32 31)).toBitVec.getLsbD i = x.toUInt32.toBitVec.getLsbD (n + i)
  rw [UInt32.toBitVec_shiftRight]
  show (x.toUInt32.toBitVec >>> (((nI n).toUInt32 &&& Int32.toUInt32 31).toBitVec % 32).toNat).getLsbD i = _
  rw [s_u n hn, BitVec.getLsbD_ushiftRight]
theorem b_sshr (n : Nat) (hn : n < 32) (x : Int32) {i : Nat} (hi : i < 32) : bt (x >>> (nI n &&& 31)) i = if n + i < 32 then bt x (n + i) else bt x 31 := by
  unfold bt
  rw [Int32.toBitVec_shiftRight]
  show (x.toBitVec.sshiftRight ((nI n &&& 31).toBitVec.smod 32).toNat).getLsbD i = _
  rw [s_l n hn, BitVec.getLsbD_sshiftRight, BitVec.msb_eq_getLsbD_last]
  simp [hi]
theorem nx_and (a b : Nat) : nI a &&& nI b = nI (a &&& b) := by
  apply Int32.toBitVec_inj.1
  show BitVec.ofNat 32 a &&& BitVec.ofNat 32 b = BitVec.ofNat 32 (a &&& b)
  apply BitVec.eq_of_getLsbD_eq
  intro i hi
  simp [hi]
theorem nx_xor (a b : Nat) : nI a ^^^ nI b = nI (a ^^^ b) := by
  apply Int32.toBitVec_inj.1
  show BitVec.ofNat 32 a ^^^ BitVec.ofNat 32 b = BitVec.ofNat 32 (a ^^^ b)
  apply BitVec.eq_of_getLsbD_eq
  intro i hi
  simp [hi]
-- loops, numbers, sets of bits
theorem upL (P : Nat → Prop) (n : Nat) (h1 : P n) (h2 : ∀ k, k < n → P (k + 1) → P k) : ∀ k, k ≤ n → P k := by
  intro k hk
  obtain ⟨j, rfl⟩ : ∃ j, n = k + j := ⟨n - k, by omega⟩
  induction j generalizing k with
  | zero => exact h1
  | succ j ih => exact h2 k (by omega) (ih (k + 1) (by rw [show k + 1 + j = k + (j + 1) by omega]; exact h1) (fun i hi => h2 i (by omega)) (by omega))
theorem dE {D k : Nat} (h : k ≤ D) : ∃ d, D = d + k := ⟨D - k, by omega⟩
theorem ix_nI {n : Nat} (h : n < 2 ^ 31) : ix (nI n) = n := nI_clamp h
theorem nI_inj {a b : Nat} (ha : a < 2 ^ 31) (hb : b < 2 ^ 31) (h : nI a = nI b) : a = b := (nI_eq ha hb).mp h
theorem vpn {n N : Nat} (h : n < N) (hN : N < 2 ^ 31) : vp_in (nI n) N := vp_in_nI h hN
theorem le_nI {a b : Nat} (ha : a < 2 ^ 31) (hb : b < 2 ^ 31) : nI a ≤ nI b ↔ a ≤ b := nI_leI ha hb
theorem lt_nI {a b : Nat} (ha : a < 2 ^ 31) (hb : b < 2 ^ 31) : nI a < nI b ↔ a < b := nI_ltI ha hb
theorem p1 (k : Nat) : nI k + 1 = nI (k + 1) := nI_1 k
theorem zl (k : Nat) (h : k < 2 ^ 31) : (0 : Int32) ≤ nI k := nI_pos' h
-- places in the row s
theorem q0 (k : Nat) : 10 + 4 * nI k + 0 = nI (10 + 4 * k) := by
  show nI 10 + nI 4 * nI k + nI 0 = _
  rw [pk_mul, nI_add, nI_add]
  rfl
theorem q1 (k : Nat) : 10 + 4 * nI k + 1 = nI (11 + 4 * k) := by
  show nI 10 + nI 4 * nI k + nI 1 = _
  rw [pk_mul, nI_add, nI_add, show 10 + 4 * k + 1 = 11 + 4 * k by omega]
theorem q2 (k : Nat) : 10 + 4 * nI k + 2 = nI (12 + 4 * k) := by
  show nI 10 + nI 4 * nI k + nI 2 = _
  rw [pk_mul, nI_add, nI_add, show 10 + 4 * k + 2 = 12 + 4 * k by omega]
theorem q3 (k : Nat) : 10 + 4 * nI k + 3 = nI (13 + 4 * k) := by
  show nI 10 + nI 4 * nI k + nI 3 = _
  rw [pk_mul, nI_add, nI_add, show 10 + 4 * k + 3 = 13 + 4 * k by omega]
theorem q4 (k : Nat) : 10 + 4 * nI k = nI (10 + 4 * k) := by
  show nI 10 + nI 4 * nI k = _
  rw [pk_mul, nI_add]
theorem r0 (w : Nat) : 42 + 3 * nI w = nI (42 + 3 * w) := by
  show nI 42 + nI 3 * nI w = _
  rw [pk_mul, nI_add]
theorem r1 (w : Nat) : 42 + 3 * nI w + 1 = nI (43 + 3 * w) := by
  rw [r0, p1, show 42 + 3 * w + 1 = 43 + 3 * w by omega]
theorem r2 (w : Nat) : 42 + 3 * nI w + 2 = nI (44 + 3 * w) := by
  rw [r0]
  show nI _ + nI 2 = _
  rw [nI_add, show 42 + 3 * w + 2 = 44 + 3 * w by omega]
abbrev kd (s : Nat → Int32) (k : Nat) : Int32 := s (10 + 4 * k)
abbrev pl (s : Nat → Int32) (k : Nat) : Int32 := s (11 + 4 * k)
abbrev ag (s : Nat → Int32) (k : Nat) : Int32 := s (12 + 4 * k)
abbrev sk (s : Nat → Int32) (k : Nat) : Int32 := s (13 + 4 * k)
abbrev fr (s : Nat → Int32) (w : Nat) : Int32 := s (42 + 3 * w)
abbrev tt (s : Nat → Int32) (w : Nat) : Int32 := s (43 + 3 * w)
abbrev sd (s : Nat → Int32) (w : Nat) : Int32 := s (44 + 3 * w)
-- sets
def bs (c : Nat → Bool) : Nat → Int32
  | 0 => 0
  | n + 1 => if c n then bs c n ||| ((1 : Int32) <<< (nI n &&& 31)) else bs c n
def bo (c : Nat → Bool) (f : Nat → Int32) : Nat → Int32
  | 0 => 0
  | n + 1 => if c n then bo c f n ||| f n else bo c f n
theorem bt_1 : ∀ i, i < 32 → bt 1 i = decide (i = 0) := by decide +kernel
theorem bt_one {n i : Nat} (hn : n < 32) : bt ((1 : Int32) <<< (nI n &&& 31)) i = decide (i = n) := by
  rcases Nat.lt_or_ge i 32 with h | h
  · rw [b_shl n hn 1 h]
    rcases Nat.lt_or_ge i n with h2 | h2
    · rw [decide_eq_false (by omega : ¬ n ≤ i), decide_eq_false (by omega : ¬ i = n)]
      rfl
    · rw [bt_1 _ (by omega), decide_eq_true h2, Bool.true_and]
      exact decide_eq_decide.mpr (by omega)
  · rw [b_big h, decide_eq_false (by omega)]
theorem bt_bs (c : Nat → Bool) (j : Nat) : ∀ n, n ≤ 32 → bt (bs c n) j = (decide (j < n) && c j)
  | 0, _ => by simp only [bs, b_0, Nat.not_lt_zero, decide_false, Bool.false_and]
  | n + 1, h => by
    have ih := bt_bs c j n (by omega)
    simp only [bs]
    by_cases hc : c n = true
    · rw [if_pos hc, b_or, ih, bt_one (by omega)]
      by_cases e : j = n
      · subst e
        simp [hc]
      · have : (j < n + 1) = (j < n) := by simp only [eq_iff_iff]; omega
        simp [e, this]
    · rw [if_neg hc, ih]
      by_cases e : j = n
      · subst e
        simp [hc]
      · have : (j < n + 1) = (j < n) := by simp only [eq_iff_iff]; omega
        simp [this]
theorem bt_bo (c : Nat → Bool) (f : Nat → Int32) (j : Nat) : ∀ n, bt (bo c f n) j = true ↔ ∃ k, k < n ∧ c k = true ∧ bt (f k) j = true
  | 0 => by simp [bo, b_0]
  | n + 1 => by
    have ih := bt_bo c f j n
    simp only [bo]
    by_cases hc : c n = true
    · rw [if_pos hc, b_or, Bool.or_eq_true, ih]
      constructor
      · rintro (⟨k, h1, h2, h3⟩ | h)
        · exact ⟨k, by omega, h2, h3⟩
        · exact ⟨n, by omega, hc, h⟩
      · rintro ⟨k, h1, h2, h3⟩
        by_cases e : k = n
        · subst e; exact Or.inr h3
        · exact Or.inl ⟨k, by omega, h2, h3⟩
    · rw [if_neg hc, ih]
      constructor
      · rintro ⟨k, h1, h2, h3⟩
        exact ⟨k, by omega, h2, h3⟩
      · rintro ⟨k, h1, h2, h3⟩
        refine ⟨k, ?_, h2, h3⟩
        rcases Nat.lt_or_ge k n with h | h
        · exact h
        · have : k = n := by omega
          subst this
          exact absurd h2 hc
theorem bs_cong {c c' : Nat → Bool} : ∀ n, (∀ k, k < n → c k = c' k) → bs c n = bs c' n
  | 0, _ => rfl
  | n + 1, h => by simp only [bs, bs_cong n (fun k hk => h k (by omega)), h n (by omega)]
theorem bo_cong {c c' : Nat → Bool} {f f' : Nat → Int32} : ∀ n, (∀ k, k < n → c k = c' k ∧ (c k = true → f k = f' k)) → bo c f n = bo c' f' n
  | 0, _ => rfl
  | n + 1, h => by
    have h1 := (h n (by omega)).1
    have h2 := (h n (by omega)).2
    simp only [bo, bo_cong n (fun k hk => h k (by omega))]
    rw [← h1]
    by_cases hc : c n = true
    · rw [if_pos hc, if_pos hc, h2 hc]
    · rw [if_neg hc, if_neg hc]
/-- one bit, as the code asks for it -/
theorem hasI (x : Int32) {j : Nat} (hj : j < 32) : (x >>> (nI j &&& 31)) &&& 1 = if bt x j then 1 else 0 := by
  apply b_ext
  intro i hi
  rw [b_and, bt_1 i hi]
  by_cases e : i = 0
  · subst e
    rw [b_sshr j hj x (by omega), if_pos (by omega), Nat.add_zero]
    by_cases h : bt x j = true
    · rw [if_pos h, h, bt_1 0 (by omega)]; rfl
    · rw [if_neg h, b_0]
      simp only [Bool.not_eq_true] at h
      rw [h]; rfl
  · rw [decide_eq_false e, Bool.and_false]
    by_cases h : bt x j = true
    · rw [if_pos h, bt_1 i hi, decide_eq_false e]
    · rw [if_neg h, b_0]
theorem has1 (x : Int32) {j : Nat} (hj : j < 32) : (x >>> (nI j &&& 31)) &&& 1 = 1 ↔ bt x j = true := by
  rw [hasI x hj]
  by_cases h : bt x j = true
  · rw [if_pos h]; exact ⟨fun _ => h, fun _ => rfl⟩
  · rw [if_neg h]; exact ⟨fun h => absurd h (by decide), fun q => absurd q h⟩
theorem has0 (x : Int32) {j : Nat} (hj : j < 32) : (x >>> (nI j &&& 31)) &&& 1 = 0 ↔ ¬ bt x j = true := by
  rw [hasI x hj]
  by_cases h : bt x j = true
  · rw [if_pos h]; exact ⟨fun h => absurd h (by decide), fun q => absurd h q⟩
  · rw [if_neg h]; exact ⟨fun _ => h, fun _ => rfl⟩
theorem orz (x : Int32) : x ||| 0 = x := by
  apply b_ext
  intro i hi
  rw [b_or, b_0, Bool.or_false]
theorem or_cm (x y : Int32) : x ||| y = y ||| x := by
  apply b_ext
  intro i hi
  rw [b_or, b_or, Bool.or_comm]
theorem and_cm (x y : Int32) : x &&& y = y &&& x := by
  apply b_ext
  intro i hi
  rw [b_and, b_and, Bool.and_comm]
abbrev mk (n : Nat) : Int32 := ((1 : Int32) <<< (nI n &&& 31)) - 1
theorem bt_mk {n : Nat} (hn : n ≤ 14) (i : Nat) : bt (mk n) i = decide (i < n) := by
  rcases Nat.lt_or_ge i 32 with h | h
  · have key : ∀ n, n ≤ 14 → ∀ i, i < 32 → bt (mk n) i = decide (i < n) := by decide +kernel
    exact key n hn i h
  · rw [b_big h, decide_eq_false (by omega)]
-- how many bits
def pop : Nat → Nat → Nat
  | 0, _ => 0
  | f + 1, m => m % 2 + pop f (m / 2)
theorem pop_0 : ∀ f, pop f 0 = 0
  | 0 => rfl
  | f + 1 => by simp only [pop, Nat.zero_div, pop_0 f, Nat.zero_mod]
theorem pop_le : ∀ f m, pop f m ≤ f
  | 0, _ => Nat.le_refl 0
  | f + 1, m => by have := pop_le f (m / 2); simp only [pop]; omega
theorem shr1 {m : Nat} (h : m < 2 ^ 31) : nI m >>> ((1 : Int32) &&& 31) = nI (m / 2) := pk_shrN h _ 1 (by decide)
theorem and1 {m : Nat} (h : m < 2 ^ 31) : nI m &&& 1 = nI (m % 2) := by
  have := pk_andN (n := m) (by omega) (m := 1) 1 (by decide)
  simpa using this
abbrev pcI (x : Int32) : Int32 := nI (pop 14 (ix x))
