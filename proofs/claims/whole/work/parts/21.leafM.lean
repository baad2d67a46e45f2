-- the reference's leaves: over the row s = M 101
theorem e0 {k : Nat} (h : k < 8) : ix (10 + 4 * nI k + 0) = 10 + 4 * k := by rw [q0]; exact ix_nI (by omega)
theorem e1 {k : Nat} (h : k < 8) : ix (10 + 4 * nI k + 1) = 11 + 4 * k := by rw [q1]; exact ix_nI (by omega)
theorem e2 {k : Nat} (h : k < 8) : ix (10 + 4 * nI k + 2) = 12 + 4 * k := by rw [q2]; exact ix_nI (by omega)
theorem e3 {k : Nat} (h : k < 8) : ix (10 + 4 * nI k + 3) = 13 + 4 * k := by rw [q3]; exact ix_nI (by omega)
theorem e4 {k : Nat} (h : k < 8) : ix (10 + 4 * nI k) = 10 + 4 * k := by rw [q4]; exact ix_nI (by omega)
theorem v0 {k : Nat} (h : k < 8) : vp_in (10 + 4 * nI k + 0) 3084 := by rw [q0]; exact vpn (by omega) (by decide)
theorem v1 {k : Nat} (h : k < 8) : vp_in (10 + 4 * nI k + 1) 3084 := by rw [q1]; exact vpn (by omega) (by decide)
theorem v2 {k : Nat} (h : k < 8) : vp_in (10 + 4 * nI k + 2) 3084 := by rw [q2]; exact vpn (by omega) (by decide)
theorem v3 {k : Nat} (h : k < 8) : vp_in (10 + 4 * nI k + 3) 3084 := by rw [q3]; exact vpn (by omega) (by decide)
theorem v4 {k : Nat} (h : k < 8) : vp_in (10 + 4 * nI k) 3084 := by rw [q4]; exact vpn (by omega) (by decide)
theorem f0 {w : Nat} (h : w < 14) : ix (42 + 3 * nI w) = 42 + 3 * w := by rw [r0]; exact ix_nI (by omega)
theorem f1 {w : Nat} (h : w < 14) : ix (42 + 3 * nI w + 1) = 43 + 3 * w := by rw [r1]; exact ix_nI (by omega)
theorem f2 {w : Nat} (h : w < 14) : ix (42 + 3 * nI w + 2) = 44 + 3 * w := by rw [r2]; exact ix_nI (by omega)
theorem vw0 {w : Nat} (h : w < 14) : vp_in (42 + 3 * nI w) 3084 := by rw [r0]; exact vpn (by omega) (by decide)
theorem vw1 {w : Nat} (h : w < 14) : vp_in (42 + 3 * nI w + 1) 3084 := by rw [r1]; exact vpn (by omega) (by decide)
theorem vw2 {w : Nat} (h : w < 14) : vp_in (42 + 3 * nI w + 2) 3084 := by rw [r2]; exact vpn (by omega) (by decide)
abbrev np (s : Nat → Int32) : Nat := ix (s 0)
abbrev nw (s : Nat → Int32) : Nat := ix (s 3)
abbrev PI (s : Nat → Int32) : Prop := s 0 = nI (np s) ∧ np s ≤ 8
abbrev WI (s : Nat → Int32) : Prop := s 3 = nI (nw s) ∧ nw s ≤ 14
def tch (s : Nat → Int32) (p : Int32) (w : Nat) : Bool := decide (fr s w = p) || decide (tt s w = p)
def eIn (s : Nat → Int32) (p : Int32) : Int32 := bs (tch s p) (nw s)
def rdS (s : Nat → Int32) (k : Nat) (p : Int32) : Int32 := if kd s k = 2 then sk s k &&& eIn s p else if kd s k = 3 then sk s k &&& (-4682) else if kd s k = 4 then sk s k &&& (eIn s p ||| 10922) else if kd s k = 5 then 10922 &&& eIn s p else sk s k
def thS (s : Nat → Int32) (p : Int32) : Int32 := bs (fun k => decide (pl s k = p)) (np s)
def brS (s : Nat → Int32) (x : Int32) : Int32 := bo (bt x) (sk s) (np s)
def irS (s : Nat → Int32) (x : Int32) (w : Nat) (p : Int32) : Nat → Bool
  | 0 => false
  | n + 1 => irS s x w p n || (bt x n && bt (rdS s n p) w)
def woS (kind skn : Int32) : Int32 := let v := pcI skn; if kind = 1 then v + 5 else if kind = 2 then 40 - v else if kind = 3 then 2 * (v + 5) else if kind = 4 then 36 - v else if kind = 5 then 3 else v
section
variable {l : Launch} {G : GT} {D : Nat} {M : Mem} {R : Option Value → Mem → Prop}
theorem sX8_bits {m : Nat} (hD : 4 ≤ D) (hm : m < 2 ^ 14) (hR : R (some (.int (nI (pop 14 m)))) M) : Tr l G D mX8_bits [.int (nI m)] M R := by
  obtain ⟨d, rfl⟩ := dE hD
  refine tX8_bits ?_
  have loop : ∀ f m a, f ≤ 14 → m < 2 ^ f → R (some (.int (nI (a + pop f m)))) M → At l G (d + 4) mX8_bits 4 [none, some (.int (nI a)), some (.int (nI m))] [] M R := by
    intro f
    induction f with
    | zero =>
      intro m a _ hm hR
      have : m = 0 := by omega
      subst this
      exact bX8_bits_4 ⟨fun _ => hR, fun h => absurd rfl h⟩
    | succ f ih =>
      intro m a hf hm hR
      by_cases h0 : m = 0
      · subst h0
        rw [pop_0] at hR
        exact bX8_bits_4 ⟨fun _ => hR, fun h => absurd rfl h⟩
      · have hm31 : m < 2 ^ 31 := Nat.lt_of_lt_of_le hm (Nat.pow_le_pow_right (by decide) (by omega))
        refine bX8_bits_4 ⟨fun h => absurd (nI_inj hm31 (by decide) h) h0, fun _ => ?_⟩
        rw [and1 hm31, shr1 hm31, nI_add]
        refine ih (m / 2) (a + m % 2) (by omega) (by rw [Nat.pow_succ] at hm; omega) ?_
        rw [show a + m % 2 + pop f (m / 2) = a + pop (f + 1) m by simp only [pop]; omega]
        exact hR
  exact loop 14 m 0 (by decide) hm (by rw [Nat.zero_add]; exact hR)
theorem sX8_endsIn {p : Int32} (hD : 4 ≤ D) (hW : WI (M 101)) (hR : R (some (.int (eIn (M 101) p))) M) : Tr l G D mX8_endsIn [.ref (G.1 100), .int p] M R := by
  obtain ⟨d, rfl⟩ := dE hD
  refine tX8_endsIn ?_
  have h14 := hW.2
  refine upL (fun k => At l G (d + 4) mX8_endsIn 4 [some (.ref (G.1 100)), some (.int p), some (.int (bs (tch (M 101) p) k)), some (.int (nI k))] [] M R) (nw (M 101)) ?_ ?_ 0 (Nat.zero_le _)
  · refine bX8_endsIn_4 ⟨fun _ => hR, fun h => absurd ?_ h⟩
    rw [hW.1, le_nI (by omega) (by omega)]
    exact Nat.le_refl _
  · intro k hk ih
    refine bX8_endsIn_4 ⟨fun h => absurd h ?_, fun _ => ⟨vw0 (by omega), fun h => ?_, fun h => ⟨vw1 (by omega), fun h2 => ?_, fun h2 => ?_⟩⟩⟩
    · rw [hW.1, le_nI (by omega) (by omega)]
      omega
    · rw [f0 (by omega)] at h
      rw [p1]
      simp only [bs] at ih
      rw [if_pos (by simp [tch, h])] at ih
      exact ih
    · rw [f0 (by omega)] at h
      rw [f1 (by omega)] at h2
      rw [p1]
      simp only [bs] at ih
      rw [if_pos (by simp [tch, h2])] at ih
      exact ih
    · rw [f0 (by omega)] at h
      rw [f1 (by omega)] at h2
      rw [p1, orz]
      simp only [bs] at ih
      rw [if_neg (by simp [tch, h, h2])] at ih
      exact ih
theorem sX8_those {p : Int32} (hD : 4 ≤ D) (hP : PI (M 101)) (hR : R (some (.int (thS (M 101) p))) M) : Tr l G D mX8_those [.ref (G.1 100), .int p] M R := by
  obtain ⟨d, rfl⟩ := dE hD
  refine tX8_those ?_
  have h8 := hP.2
  refine upL (fun k => At l G (d + 4) mX8_those 4 [some (.ref (G.1 100)), some (.int p), some (.int (bs (fun k => decide (pl (M 101) k = p)) k)), some (.int (nI k))] [] M R) (np (M 101)) ?_ ?_ 0 (Nat.zero_le _)
  · refine bX8_those_4 ⟨fun _ => hR, fun h => absurd ?_ h⟩
    rw [hP.1, le_nI (by omega) (by omega)]
    exact Nat.le_refl _
  · intro k hk ih
    refine bX8_those_4 ⟨fun h => absurd h ?_, fun _ => ⟨v1 (by omega), fun h => ?_, fun h => ?_⟩⟩
    · rw [hP.1, le_nI (by omega) (by omega)]
      omega
    · rw [e1 (by omega)] at h
      rw [p1]
      simp only [bs] at ih
      rw [if_pos (by simp [h])] at ih
      exact ih
    · rw [e1 (by omega)] at h
      rw [p1, orz]
      simp only [bs] at ih
      rw [if_neg (by simp [h])] at ih
      exact ih
theorem sX8_canRead {k : Nat} {p : Int32} (hD : 8 ≤ D) (hk : k < 8) (hW : WI (M 101)) (hR : R (some (.int (rdS (M 101) k p))) M) : Tr l G D mX8_canRead [.ref (G.1 100), .int (nI k), .int p] M R := by
  obtain ⟨d, rfl⟩ := dE (show 4 ≤ D by omega)
  refine tX8_canRead ?_
  rw [e3 hk, e0 hk]
  unfold rdS at hR
  refine ⟨v3 hk, v0 hk, fun h => ?_, fun h => ?_, fun h => ?_, fun h => ?_, fun h2 h3 h4 h5 => ?_⟩
  · rw [if_pos h] at hR
    exact sX8_endsIn (by omega) hW (kI_i (bX8_canRead_56 hR))
  · rw [if_neg (fun q => absurd (h.symm.trans q) (by decide)), if_pos h] at hR
    exact hR
  · rw [if_neg (fun q => absurd (h.symm.trans q) (by decide)), if_neg (fun q => absurd (h.symm.trans q) (by decide)), if_pos h] at hR
    exact sX8_endsIn (by omega) hW (kI_i (bX8_canRead_64 hR))
  · rw [if_neg (fun q => absurd (h.symm.trans q) (by decide)), if_neg (fun q => absurd (h.symm.trans q) (by decide)), if_neg (fun q => absurd (h.symm.trans q) (by decide)), if_pos h] at hR
    exact sX8_endsIn (by omega) hW (kI_i (bX8_canRead_78 hR))
  · rw [if_neg h2, if_neg h3, if_neg h4, if_neg h5] at hR
    exact hR
theorem sX8_isRead {x p : Int32} {w : Nat} (hD : 12 ≤ D) (hw : w < 32) (hP : PI (M 101)) (hW : WI (M 101)) (hR : R (some (.int (if irS (M 101) x w p (np (M 101)) then 1 else 0))) M) : Tr l G D mX8_isRead [.ref (G.1 100), .int x, .int (nI w), .int p] M R := by
  obtain ⟨d, rfl⟩ := dE (show 4 ≤ D by omega)
  refine tX8_isRead ?_
  have h8 := hP.2
  refine upL (fun k => At l G (d + 4) mX8_isRead 6 [some (.ref (G.1 100)), some (.int x), some (.int (nI w)), some (.int p), some (.int (if irS (M 101) x w p k then 1 else 0)), some (.int (nI k))] [] M R) (np (M 101)) ?_ ?_ 0 (Nat.zero_le _)
  · refine bX8_isRead_6 ⟨fun _ => ⟨by split <;> rfl, hR⟩, fun h => absurd ?_ h⟩
    rw [hP.1, le_nI (by omega) (by omega)]
    exact Nat.le_refl _
  · intro k hk ih
    refine bX8_isRead_6 ⟨fun h => absurd h ?_, fun _ => ⟨fun h => ?_, fun h => ?_⟩⟩
    · rw [hP.1, le_nI (by omega) (by omega)]
      omega
    · rw [has1 x (by omega)] at h
      refine sX8_canRead (by omega) (by omega) hW (kI_i (bX8_isRead_35 ⟨fun h2 => ?_, fun h2 => ?_⟩))
      · rw [has1 _ (by omega)] at h2
        rw [p1]
        simp only [irS, h, h2, Bool.and_true, Bool.or_true, if_true] at ih
        have e : (if irS (M 101) x w p k = true then (1 : Int32) else 0) ||| 1 = 1 := by split <;> decide
        rw [e]
        exact ih
      · rw [has1 _ (by omega)] at h2
        rw [p1, orz]
        simp only [irS, h, h2, Bool.and_false, Bool.or_false] at ih
        exact ih
    · rw [has1 x (by omega)] at h
      rw [p1, orz]
      simp only [irS, h, Bool.false_and, Bool.or_false] at ih
      exact ih
theorem sX8_borne {x : Int32} (hD : 4 ≤ D) (hP : PI (M 101)) (hR : R (some (.int (brS (M 101) x))) M) : Tr l G D mX8_borne [.ref (G.1 100), .int x] M R := by
  obtain ⟨d, rfl⟩ := dE hD
  refine tX8_borne ?_
  have h8 := hP.2
  refine upL (fun k => At l G (d + 4) mX8_borne 4 [some (.ref (G.1 100)), some (.int x), some (.int (bo (bt x) (sk (M 101)) k)), some (.int (nI k))] [] M R) (np (M 101)) ?_ ?_ 0 (Nat.zero_le _)
  · refine bX8_borne_4 ⟨fun _ => hR, fun h => absurd ?_ h⟩
    rw [hP.1, le_nI (by omega) (by omega)]
    exact Nat.le_refl _
  · intro k hk ih
    refine bX8_borne_4 ⟨fun h => absurd h ?_, fun _ => ⟨fun h => ⟨v3 (by omega), ?_⟩, fun h => ?_⟩⟩
    · rw [hP.1, le_nI (by omega) (by omega)]
      omega
    · rw [has1 x (by omega)] at h
      rw [p1, e3 (by omega)]
      simp only [bo] at ih
      rw [if_pos h] at ih
      exact ih
    · rw [has1 x (by omega)] at h
      rw [p1, orz]
      simp only [bo] at ih
      rw [if_neg h] at ih
      exact ih
end
