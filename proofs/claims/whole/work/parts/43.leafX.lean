-- the program's leaves over a land
theorem sub4 : ∀ r, r < 15 → (40 : Int32) - nI r - 4 = 36 - nI r := by decide +kernel
section
variable {l : Launch} {G : GT} {D : Nat} {M : Mem} {R : Option Value → Mem → Prop} {b : Nat} {s : Nat → Int32}
theorem sJ6_bitCount {m : Nat} (hD : 4 ≤ D) (hm : m < 2 ^ 14) (hR : R (some (.int (nI (pop 14 m)))) M) : Tr l G D mJ6_bitCount_0f7a4 [.int (nI m)] M R := by
  obtain ⟨d, rfl⟩ := dE hD
  refine tJ6_bitCount_0f7a4 ?_
  show R (some (.int (bcX (nI m)))) M
  rw [bc_is hm]
  exact hR
theorem sX0_worth {kind : Int32} {m : Nat} (hD : 8 ≤ D) (hm : m < 2 ^ 14) (hR : R (some (.int (woS kind (nI m)))) M) : Tr l G D mX0_worth [.int kind, .int (nI m)] M R := by
  obtain ⟨d, rfl⟩ := dE (show 4 ≤ D by omega)
  have e : pcI (nI m) = nI (pop 14 m) := by show nI (pop 14 (ix (nI m))) = _; rw [ix_nI (by omega)]
  have w : ∀ y, woS kind (nI m) = y → R (some (.int y)) M := fun y h => h ▸ hR
  refine tX0_worth (sJ6_bitCount (by omega) hm (kI_i (bX0_worth_4 ⟨fun h => w _ ?_, fun h => w _ ?_, fun h => w _ ?_, fun h => w _ ?_, fun h => w _ ?_, fun h1 h2 h3 h4 h5 => w _ ?_⟩)))
  · unfold woS; rw [e, if_pos h]
  · subst h; unfold woS; rw [e, if_neg (by decide), if_pos rfl]
  · subst h; unfold woS; rw [e, if_neg (by decide), if_neg (by decide), if_pos rfl]
  · subst h; unfold woS; rw [e, if_neg (by decide), if_neg (by decide), if_neg (by decide), if_pos rfl]
    exact (sub4 _ (Nat.lt_succ_of_le (pop_le 14 m))).symm
  · subst h; unfold woS; rw [e, if_neg (by decide), if_neg (by decide), if_neg (by decide), if_neg (by decide), if_pos rfl]
  · unfold woS; rw [e, if_neg h1, if_neg h2, if_neg h3, if_neg h4, if_neg h5]
theorem sX8_worth {k m : Nat} (hD : 8 ≤ D) (hk : k < 8) (hm : m < 2 ^ 14) (hs : sk (M 101) k = nI m) (hR : R (some (.int (woS (kd (M 101) k) (sk (M 101) k)))) M) : Tr l G D mX8_worth [.ref (G.1 100), .int (nI k)] M R := by
  obtain ⟨d, rfl⟩ := dE (show 4 ≤ D by omega)
  have e : pcI (sk (M 101) k) = nI (pop 14 m) := by rw [hs]; show nI (pop 14 (ix (nI m))) = _; rw [ix_nI (by omega)]
  have w : ∀ y, woS (kd (M 101) k) (sk (M 101) k) = y → R (some (.int y)) M := fun y h => h ▸ hR
  have eb : M 101 (ix (10 + 4 * nI k + 3)) = nI m := by rw [e3 hk]; exact hs
  have ec : M 101 (ix (10 + 4 * nI k + 0)) = kd (M 101) k := by rw [e0 hk]
  refine tX8_worth ⟨v3 hk, ?_⟩
  rw [eb]
  refine sX8_bits (by omega) hm (kI_i (bX8_worth_9 ?_))
  rw [ec]
  refine ⟨v0 hk, fun h => w _ ?_, fun h => w _ ?_, fun h => w _ ?_, fun h => w _ ?_, fun h => w _ ?_, fun h1 h2 h3 h4 h5 => w _ ?_⟩
  · unfold woS; rw [e, if_pos h]
  · rw [h]; unfold woS; rw [e, if_neg (by decide), if_pos rfl]
  · rw [h]; unfold woS; rw [e, if_neg (by decide), if_neg (by decide), if_pos rfl]
  · rw [h]; unfold woS; rw [e, if_neg (by decide), if_neg (by decide), if_neg (by decide), if_pos rfl]
  · rw [h]; unfold woS; rw [e, if_neg (by decide), if_neg (by decide), if_neg (by decide), if_neg (by decide), if_pos rfl]
  · unfold woS; rw [e, if_neg h1, if_neg h2, if_neg h3, if_neg h4, if_neg h5]
theorem sX1_peopleIn {p : Int32} (hb : IsLd b) (hD : 4 ≤ D) (hI : Inv s) (hL : LR M b s) (hR : R (some (.int (thS s p))) M) : Tr l G D mX1_peopleIn [.ref (G.1 b), .int p] M R := by
  obtain ⟨d, rfl⟩ := dE hD
  have h8 := hI.1.2
  have e1 : M b 1 = nI (np s) := hL.1.1.trans hI.1.1
  refine tX1_peopleIn hb ?_
  refine upL (fun k => At l G (d + 4) mX1_peopleIn 4 [some (.ref (G.1 b)), some (.int p), some (.int (bs (fun k => decide (pl s k = p)) k)), some (.int (nI k))] [] M R) (np s) ?_ ?_ 0 (Nat.zero_le _)
  · refine bX1_peopleIn_4 hb ⟨fun _ => hR, fun h => absurd ?_ h⟩
    rw [e1, le_nI (by omega) (by omega)]
    exact Nat.le_refl _
  · intro k hk ih
    refine bX1_peopleIn_4 hb ⟨fun h => absurd h ?_, fun _ => ⟨vpn (by omega) (by decide), fun h => ?_, fun h => ?_⟩⟩
    · rw [e1, le_nI (by omega) (by omega)]
      omega
    · rw [ix_nI (by omega), hL.2.2.1 k (by omega)] at h
      rw [p1]
      simp only [bs] at ih
      rw [if_pos (by simp [h])] at ih
      exact ih
    · rw [ix_nI (by omega), hL.2.2.1 k (by omega)] at h
      rw [p1]
      simp only [bs] at ih
      rw [if_neg (by simp [h])] at ih
      exact ih
/-- who bears way w -/
def beS (s : Nat → Int32) (w : Nat) : Int32 := bs (fun k => bt (sk s k) w) (np s)
theorem sX1_bearersOf {w : Nat} (hb : IsLd b) (hD : 4 ≤ D) (hw : w < 14) (hI : Inv s) (hL : LR M b s) (hR : R (some (.int (beS s w))) M) : Tr l G D mX1_bearersOf [.ref (G.1 b), .int (nI w)] M R := by
  obtain ⟨d, rfl⟩ := dE hD
  have h8 := hI.1.2
  have e1 : M b 1 = nI (np s) := hL.1.1.trans hI.1.1
  refine tX1_bearersOf hb ?_
  refine upL (fun k => At l G (d + 4) mX1_bearersOf 4 [some (.ref (G.1 b)), some (.int (nI w)), some (.int (bs (fun k => bt (sk s k) w) k)), some (.int (nI k))] [] M R) (np s) ?_ ?_ 0 (Nat.zero_le _)
  · refine bX1_bearersOf_4 hb ⟨fun _ => hR, fun h => absurd ?_ h⟩
    rw [e1, le_nI (by omega) (by omega)]
    exact Nat.le_refl _
  · intro k hk ih
    refine bX1_bearersOf_4 hb ⟨fun h => absurd h ?_, fun _ => ⟨vpn (by omega) (by decide), fun h => ?_, fun h => ?_⟩⟩
    · rw [e1, le_nI (by omega) (by omega)]
      omega
    · rw [ix_nI (by omega), hL.2.2.2.2.1 k (by omega), has0 _ (by omega)] at h
      rw [p1]
      simp only [bs] at ih
      rw [if_neg h] at ih
      exact ih
    · rw [ix_nI (by omega), hL.2.2.2.2.1 k (by omega), has0 _ (by omega)] at h
      rw [p1]
      simp only [bs] at ih
      rw [if_pos (Classical.not_not.mp h)] at ih
      exact ih
theorem sX1_skinsOf {x : Int32} (hb : IsLd b) (hD : 4 ≤ D) (hI : Inv s) (hL : LR M b s) (hR : R (some (.int (brS s x))) M) : Tr l G D mX1_skinsOf [.ref (G.1 b), .int x] M R := by
  obtain ⟨d, rfl⟩ := dE hD
  have h8 := hI.1.2
  have e1 : M b 1 = nI (np s) := hL.1.1.trans hI.1.1
  refine tX1_skinsOf hb ?_
  refine upL (fun k => At l G (d + 4) mX1_skinsOf 4 [some (.ref (G.1 b)), some (.int x), some (.int (bo (bt x) (sk s) k)), some (.int (nI k))] [] M R) (np s) ?_ ?_ 0 (Nat.zero_le _)
  · refine bX1_skinsOf_4 hb ⟨fun _ => hR, fun h => absurd ?_ h⟩
    rw [e1, le_nI (by omega) (by omega)]
    exact Nat.le_refl _
  · intro k hk ih
    refine bX1_skinsOf_4 hb ⟨fun h => absurd h ?_, fun _ => ⟨fun h => ?_, fun h => ⟨vpn (by omega) (by decide), ?_⟩⟩⟩
    · rw [e1, le_nI (by omega) (by omega)]
      omega
    · rw [has0 _ (by omega)] at h
      rw [p1]
      simp only [bo] at ih
      rw [if_neg h] at ih
      exact ih
    · rw [has0 _ (by omega)] at h
      rw [p1, ix_nI (by omega), hL.2.2.2.2.1 k (by omega)]
      simp only [bo] at ih
      rw [if_pos (Classical.not_not.mp h)] at ih
      exact ih
theorem br_all {s : Nat → Int32} (hI : Inv s) : ∃ m, m < 2 ^ 14 ∧ brS s (mk (np s)) = nI m := by
  have h14 := hI.2.1.2
  refine (small_bits (n := 14) (by decide) (fun j hj => ?_))
  unfold brS at hj
  rw [bt_bo] at hj
  obtain ⟨k, hk, _, h2⟩ := hj
  have := (hI.2.2.2.1 k hk).2.2.2 j h2
  omega
theorem sX1_waysBorne (hb : IsLd b) (hD : 12 ≤ D) (hI : Inv s) (hL : LR M b s) (hR : R (some (.int (pcI (brS s (mk (np s)))))) M) : Tr l G D mX1_waysBorne [.ref (G.1 b)] M R := by
  obtain ⟨d, rfl⟩ := dE (show 4 ≤ D by omega)
  have e1 : M b 1 = nI (np s) := hL.1.1.trans hI.1.1
  refine tX1_waysBorne hb ?_
  rw [e1]
  refine sX1_skinsOf hb (by omega) hI hL (kI_i (bX1_waysBorne_8 ?_))
  obtain ⟨m, hm, e⟩ := br_all hI
  show Tr l G (d + 3) mJ6_bitCount_0f7a4 [.int (brS s (mk (np s)))] M _
  have hR' := hR
  rw [e] at hR' ⊢
  refine sJ6_bitCount (by omega) hm (kI_i (bX1_waysBorne_11 ?_))
  have e2 : pcI (nI m) = nI (pop 14 m) := by show nI (pop 14 (ix (nI m))) = _; rw [ix_nI (by omega)]
  rw [e2] at hR'
  exact hR'
end
