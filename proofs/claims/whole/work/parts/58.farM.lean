-- the reference's search: how far every place is
def Ot (s : Nat → Int32) (w q : Nat) : Int32 := if fr s w = nI q then tt s w else fr s w
def Hp (s : Nat → Int32) (x : Int32) (f t h p : Nat) : Prop := ∃ q, q < 10 ∧ (if h % 2 = 0 then fr s (h / 2) else tt s (h / 2)) = nI q ∧ Fs s x f t q ∧ Ot s (h / 2) q = nI p ∧ sd s (h / 2) = 1 ∧ irS s x (h / 2) (nI q) (np s) = true
/-- the distances when n half ways of step t have been gone through -/
def DP (M : Mem) (s : Nat → Int32) (x : Int32) (f t n : Nat) : Prop := ∀ p, p < 10 → (∃ i, i ≤ t ∧ M 112 p = nI i ∧ Fs s x f i p) ∨ (¬ Rc s x f t p ∧ ((M 112 p = nI (t + 1) ∧ ∃ h, h < n ∧ Hp s x f t h p) ∨ (M 112 p = -1 ∧ ∀ h, h < n → ¬ Hp s x f t h p)))
def DF (M : Mem) (s : Nat → Int32) (x : Int32) (f t : Nat) : Prop := ∀ p, p < 10 → (∃ i, i ≤ t ∧ M 112 p = nI i ∧ Fs s x f i p) ∨ (M 112 p = -1 ∧ ¬ Rc s x f t p)
theorem neg1_lt {n : Nat} (h : n < 2 ^ 31) : nI n ≠ -1 := by
  intro e
  have := zl n h
  rw [e] at this
  exact absurd this (by decide)
theorem hp_ed {s : Nat → Int32} {x : Int32} {f t h p : Nat} (hI : Inv s) (hh : h < 2 * nw s) (hp : p < 10) (g : Hp s x f t h p) : ∃ q, q < 10 ∧ Fs s x f t q ∧ Ed s x q p := by
  obtain ⟨q, hq, g1, g2, g3, g4, g5⟩ := g
  obtain ⟨k, hk, k1, k2⟩ := (irS_iff s x (h / 2) (nI q) (np s)).mp g5
  refine ⟨q, hq, g2, k, hk, k1, h / 2, by omega, g4, k2, ?_⟩
  unfold Ot at g3
  by_cases e : fr s (h / 2) = nI q
  · rw [if_pos e] at g3; exact Or.inl ⟨e, g3⟩
  · rw [if_neg e] at g3
    refine Or.inr ⟨?_, g3⟩
    split at g1
    · exact absurd g1 e
    · exact g1
theorem ed_hp {s : Nat → Int32} {x : Int32} {f t q p : Nat} (hq : q < 10) (g : Fs s x f t q) (e : Ed s x q p) : ∃ h, h < 2 * nw s ∧ Hp s x f t h p := by
  obtain ⟨k, hk, k1, w, hw, w1, w2, w3⟩ := e
  have hir := (irS_iff s x w (nI q) (np s)).mpr ⟨k, hk, k1, w2⟩
  rcases w3 with ⟨a1, a2⟩ | ⟨a1, a2⟩
  · refine ⟨2 * w, by omega, q, hq, ?_⟩
    rw [show 2 * w / 2 = w by omega, if_pos (by omega)]
    refine ⟨a1, g, ?_, w1, hir⟩
    unfold Ot
    rw [if_pos a1]; exact a2
  · refine ⟨2 * w + 1, by omega, q, hq, ?_⟩
    rw [show (2 * w + 1) / 2 = w by omega, if_neg (by omega)]
    refine ⟨a1, g, ?_, w1, hir⟩
    unfold Ot
    by_cases e : fr s w = nI q
    · rw [if_pos e, a1, ← a2, e]
    · rw [if_neg e]; exact a2
theorem df_dp {M : Mem} {s : Nat → Int32} {x : Int32} {f t : Nat} (h : DF M s x f t) : DP M s x f t 0 := fun p hp => by
  rcases h p hp with g | ⟨g1, g2⟩
  · exact Or.inl g
  · exact Or.inr ⟨g2, Or.inr ⟨g1, fun h hh => absurd hh (Nat.not_lt_zero h)⟩⟩
theorem dp_df {M : Mem} {s : Nat → Int32} {x : Int32} {f t : Nat} (hI : Inv s) (h : DP M s x f t (2 * nw s)) : DF M s x f (t + 1) := fun p hp => by
  rcases h p hp with ⟨i, hi, g⟩ | ⟨g0, ⟨g1, n, hn, g2⟩ | ⟨g1, g2⟩⟩
  · exact Or.inl ⟨i, by omega, g⟩
  · obtain ⟨q, hq, q1, q2⟩ := hp_ed hI hn hp g2
    exact Or.inl ⟨t + 1, Nat.le_refl _, g1, Or.inr ⟨q, hq, q1.1, q2⟩, fun i hi hr => g0 (rc_mono (by omega) hr)⟩
  · refine Or.inr ⟨g1, fun hr => ?_⟩
    rcases hr with hr | ⟨q, hq, q1, q2⟩
    · exact g0 hr
    · have hf : Fs s x f t q := ⟨q1, fun i hi hr => g0 (rc_mono (show i + 1 ≤ t by omega) (Or.inr ⟨q, hq, hr, q2⟩))⟩
      obtain ⟨n, hn, g3⟩ := ed_hp hq hf q2
      exact g2 n hn g3
theorem dp_q {M : Mem} {s : Nat → Int32} {x : Int32} {f t n q : Nat} (ht : t < 10) (h : DP M s x f t n) (hq : q < 10) : M 112 q = nI t ↔ Fs s x f t q := by
  rcases h q hq with ⟨i, hi, g1, g2⟩ | ⟨g0, ⟨g1, -⟩ | ⟨g1, -⟩⟩
  · rw [g1, nI_eq (by omega) (by omega)]
    constructor
    · intro e; rw [← e]; exact g2
    · intro hf
      by_cases e : i < t
      · exact absurd g2.1 (hf.2 i e)
      · omega
  · rw [g1, nI_eq (by omega) (by omega)]
    exact ⟨fun e => by omega, fun hf => absurd hf.1 g0⟩
  · rw [g1]
    exact ⟨fun e => absurd e.symm (neg1_lt (by omega)), fun hf => absurd hf.1 g0⟩
theorem dp_p {M : Mem} {s : Nat → Int32} {x : Int32} {f t n p : Nat} (ht : t < 10) (h : DP M s x f t n) (hp : p < 10) : ¬ (0 ≤ M 112 p) ↔ M 112 p = -1 := by
  rcases h p hp with ⟨i, hi, g1, g2⟩ | ⟨g0, ⟨g1, -⟩ | ⟨g1, -⟩⟩
  · rw [g1]; exact ⟨fun e => absurd (zl i (by omega)) e, fun e => absurd e (neg1_lt (by omega))⟩
  · rw [g1]; exact ⟨fun e => absurd (zl _ (by omega)) e, fun e => absurd e (neg1_lt (by omega))⟩
  · rw [g1]; exact ⟨fun _ => rfl, fun _ => by decide⟩
section
variable {l : Launch} {G : GT} {D : Nat} {M : Mem} {R : Option Value → Mem → Prop} {x : Int32} {f : Nat}
/-- one half way -/
theorem sX8_goesBy {t n w q : Nat} (hD : 16 ≤ D) (ht : t < 10) (hI : Inv (M 101)) (hw : w < nw (M 101)) (hn : n / 2 = w) (hq : q < 10) (heq : (if n % 2 = 0 then fr (M 101) w else tt (M 101) w) = nI q) (hP : DP M (M 101) x f t n) (hR : ∀ M', Ag [112] M M' → DP M' (M 101) x f t (n + 1) → R none M') : Tr l G D mX8_goesBy [.ref (G.1 100), .int x, .int (nI w), .int (nI q), .int (nI t)] M R := by
  obtain ⟨d, rfl⟩ := dE (show 4 ≤ D by omega)
  have h14 := hI.2.1.2
  obtain ⟨⟨a, ha, ea⟩, ⟨c, hc, ec⟩, -⟩ := hI.2.2.2.2 w hw
  have hO : ∃ p, p < 10 ∧ Ot (M 101) w q = nI p := by
    unfold Ot
    split
    · exact ⟨c, hc, ec⟩
    · exact ⟨a, ha, ea⟩
  obtain ⟨p, hp, eO⟩ := hO
  have hqf := dp_q ht hP hq
  have hpf := dp_p ht hP hp
  have same : ¬ (Fs (M 101) x f t q ∧ M 112 p = -1 ∧ sd (M 101) w = 1 ∧ irS (M 101) x w (nI q) (np (M 101)) = true) → R none M := by
    intro hc
    refine hR M (Ag.rf _ _) (fun p' hp' => ?_)
    rcases hP p' hp' with g | ⟨g0, ⟨g1, h, hh, g2⟩ | ⟨g1, g2⟩⟩
    · exact Or.inl g
    · exact Or.inr ⟨g0, Or.inl ⟨g1, h, by omega, g2⟩⟩
    · refine Or.inr ⟨g0, Or.inr ⟨g1, fun h hh hH => ?_⟩⟩
      by_cases e : h = n
      · rw [e] at hH
        obtain ⟨q', hq', k1, k2, k3, k4, k5⟩ := hH
        rw [hn] at k1 k3 k4 k5
        rw [heq] at k1
        have eq' := (nI_eq (by omega) (by omega)).mp k1
        rw [← eq'] at k2 k3 k5
        rw [eO] at k3
        have ep := (nI_eq (by omega) (by omega)).mp k3
        rw [← ep] at g1
        exact hc ⟨k2, g1, k4, k5⟩
      · exact g2 h (by omega) hH
  have upd' : (Fs (M 101) x f t q ∧ M 112 p = -1 ∧ sd (M 101) w = 1 ∧ irS (M 101) x w (nI q) (np (M 101)) = true) → R none (um M 112 p (nI t + 1)) := by
    intro ⟨c1, c2, c3, c4⟩
    refine hR _ ((Ag.rf _ _).ua (by decide) _) (fun p' hp' => ?_)
    have hH : Hp (M 101) x f t n p := ⟨q, hq, by rw [hn]; exact heq, c1, by rw [hn]; exact eO, by rw [hn]; exact c3, by rw [hn]; exact c4⟩
    rw [um_s]
    by_cases e : p' = p
    · rw [e, pk_us, p1]
      rcases hP p hp with ⟨i, hi, g1, g2⟩ | ⟨g0, -⟩
      · rw [c2] at g1; exact absurd g1.symm (neg1_lt (by omega))
      · exact Or.inr ⟨g0, Or.inl ⟨rfl, n, by omega, hH⟩⟩
    · rw [pk_un e]
      rcases hP p' hp' with g | ⟨g0, ⟨g1, h, hh, g2⟩ | ⟨g1, g2⟩⟩
      · exact Or.inl g
      · exact Or.inr ⟨g0, Or.inl ⟨g1, h, by omega, g2⟩⟩
      · refine Or.inr ⟨g0, Or.inr ⟨g1, fun h hh hH' => ?_⟩⟩
        by_cases e2 : h = n
        · rw [e2] at hH'
          obtain ⟨q', hq', k1, k2, k3, -⟩ := hH'
          rw [hn] at k1 k3
          rw [heq] at k1
          have eq' := (nI_eq (by omega) (by omega)).mp k1
          rw [← eq', eO] at k3
          exact e ((nI_eq (by omega) (by omega)).mp k3).symm
        · exact g2 h (by omega) hH'
  have x0 : ix (42 + 3 * nI w) = 42 + 3 * w := f0 (by omega)
  have x1 : ix (42 + 3 * nI w + 1) = 43 + 3 * w := f1 (by omega)
  have x2 : ix (42 + 3 * nI w + 2) = 44 + 3 * w := f2 (by omega)
  have xq : ix (nI q) = q := ix_nI (by omega)
  have fin : ∀ o : Int32, o = nI p → (vp_in o 10 ∧ (0 ≤ M 112 (ix o) → R none M) ∧ (¬ (0 ≤ M 112 (ix o)) → vp_in (42 + 3 * nI w + 2) 3084 ∧ (M 101 (ix (42 + 3 * nI w + 2)) = 1 → M 112 q = nI t → Tr l G (d + 3) mX8_isRead [.ref (G.1 100), .int x, .int (nI w), .int (nI q)] M (kI fun q_1 M' => At l G (d + 4) mX8_goesBy 44 [some (.ref (G.1 100)), none, none, none, some (.int (nI t)), some (.int o)] [.int q_1] M' R)) ∧ (¬ M 101 (ix (42 + 3 * nI w + 2)) = 1 → R none M))) := by
    intro o eo
    rw [eo, ix_nI (show p < 2 ^ 31 by omega), x2]
    refine ⟨vpn hp (by decide), fun h => same (fun hc => (hpf.mpr hc.2.1) h), fun h => ⟨vw2 (by omega), fun h2 h3 => ?_, fun h2 => same (fun hc => h2 hc.2.2.1)⟩⟩
    refine sX8_isRead (by omega) (by omega) hI.1 hI.2.1 (kI_i (bX8_goesBy_44 ⟨fun h4 => ?_, fun h4 => ⟨vpn hp (by decide), ?_⟩⟩))
    · refine same (fun hc => ?_)
      rw [if_pos hc.2.2.2] at h4
      exact absurd h4 (by decide)
    · rw [ix_nI (show p < 2 ^ 31 by omega)]
      refine upd' ⟨hqf.mp h3, hpf.mp h, h2, ?_⟩
      by_cases e : irS (M 101) x w (nI q) (np (M 101)) = true
      · exact e
      · rw [if_neg e] at h4; exact absurd rfl h4
  have no : ¬ M 112 q = nI t → R none M := fun h => same (fun hc => h (hqf.mpr hc.1))
  refine tX8_goesBy ⟨vw0 (by omega), fun h => ?_, fun h => ?_⟩
  · rw [x0] at h
    have eo : M 101 (ix (42 + 3 * nI w + 1)) = nI p := by
      rw [x1]
      unfold Ot at eO
      rw [if_pos h] at eO
      exact eO
    obtain ⟨g1, g2, g3⟩ := fin _ eo
    refine ⟨vw1 (by omega), vpn hq (by decide), fun h1 => ?_, fun h1 => ?_⟩
    · rw [xq] at h1
      exact ⟨g1, g2, fun h2 => ⟨(g3 h2).1, fun h3 => (g3 h2).2.1 h3 h1, (g3 h2).2.2⟩⟩
    · rw [xq] at h1; exact no h1
  · rw [x0] at h
    have eo : M 101 (ix (42 + 3 * nI w)) = nI p := by
      rw [x0]
      unfold Ot at eO
      rw [if_neg h] at eO
      exact eO
    obtain ⟨g1, g2, g3⟩ := fin _ eo
    refine ⟨vw0 (by omega), vpn hq (by decide), fun h1 => ?_, fun h1 => ?_⟩
    · rw [xq] at h1
      exact ⟨g1, g2, fun h2 => ⟨(g3 h2).1, fun h3 => (g3 h2).2.1 h3 h1, (g3 h2).2.2⟩⟩
    · rw [xq] at h1; exact no h1
end
