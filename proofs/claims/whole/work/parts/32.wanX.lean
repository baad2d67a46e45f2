-- the class's day
def XS (M : Mem) (b : Nat) (s : Nat → Int32) : Prop := LR M b s ∧ Inv s ∧ ∀ t, t < nt s → LW M s t
theorem ldC_lo {b k : Nat} (hb : IsLd b) (hk : k < 21) (h6 : k ≠ 6) : k ∉ ldC b := by
  unfold ldC
  have : 30 ≤ b := by unfold IsLd at hb; omega
  simp only [List.mem_cons, List.not_mem_nil, or_false]
  omega
theorem LW_ag {M M' : Mem} {b : Nat} {s : Nat → Int32} {t : Nat} (hb : IsLd b) (ht : t < 14) (hA : Ag (ldC b) M M') (h : LW M s t) : LW M' s t := by
  unfold LW
  rw [hA 3 (ldC_lo hb (by decide) (by decide)), hA 4 (ldC_lo hb (by decide) (by decide)), hA 5 (ldC_lo hb (by decide) (by decide)), hA (7 + t) (ldC_lo hb (by omega) (by omega))]
  exact h
theorem LW_cong {M : Mem} {s s' : Nat → Int32} {t : Nat} (h : ∀ j, 84 + 200 * t ≤ j → j < 284 + 200 * t → s' j = s j) (hm : tMany s t ≤ 96) (g : LW M s t) : LW M s' t := by
  have e84 := h (84 + 200 * t) (by omega) (by omega)
  have e85 := h (85 + 200 * t) (by omega) (by omega)
  have e86 := h (86 + 200 * t) (by omega) (by omega)
  have em : tMany s' t = tMany s t := by show ix (s' _) = ix (s _); rw [e86]
  obtain ⟨g1, g2, g3, g4⟩ := g
  refine ⟨by rw [e86]; exact g1, by rw [e84]; exact g2, by rw [e85]; exact g3, fun i hi => ?_⟩
  rw [em] at hi
  rw [show tWh s' t i = tWh s t i from h _ (by omega) (by omega), show tVa s' t i = tVa s t i from h _ (by omega) (by omega)]
  exact g4 i hi
theorem XS.mv {M M' : Mem} {b : Nat} {s s' : Nat → Int32} (hb : IsLd b) (h : XS M b s) (hA : Ag (ldC b) M M') (hk : Keep s s') (hL : LR M' b s') (hI : Inv s') : XS M' b s' := by
  refine ⟨hL, hI, fun t ht => ?_⟩
  rw [hk.gnt] at ht
  have h14 := h.2.1.2.2.1.2.1
  exact LW_cong (fun j hj _ => hk.2.2.2.2.2.1 j (by omega)) ((h.2.1.2.2.1.2.2 t ht).2.2.1) (LW_ag hb (by omega) hA (h.2.2 t ht))
def rbS (s : Nat → Int32) (p : Int32) : Int32 := bo (fun k => decide (pl s k = p)) (fun k => rdS s k p) (np s)
theorem irS_iff (s : Nat → Int32) (x : Int32) (w : Nat) (p : Int32) : ∀ n, irS s x w p n = true ↔ ∃ k, k < n ∧ bt x k = true ∧ bt (rdS s k p) w = true
  | 0 => by simp [irS]
  | n + 1 => by
    have ih := irS_iff s x w p n
    simp only [irS, Bool.or_eq_true, Bool.and_eq_true, ih]
    constructor
    · rintro (⟨k, h1, h2⟩ | h)
      · exact ⟨k, by omega, h2⟩
      · exact ⟨n, by omega, h⟩
    · rintro ⟨k, h1, h2⟩
      by_cases e : k = n
      · subst e; exact Or.inr h2
      · exact Or.inl ⟨k, by omega, h2⟩
theorem rb_ir {s : Nat → Int32} (h8 : np s ≤ 8) (p : Int32) (w : Nat) : bt (rbS s p) w = true ↔ irS s (thS s p) w p (np s) = true := by
  rw [irS_iff]
  unfold rbS thS
  rw [bt_bo]
  constructor
  · rintro ⟨k, h1, h2, h3⟩
    refine ⟨k, h1, ?_, h3⟩
    rw [bt_bs _ _ _ (by omega)]
    simp [h1, h2]
  · rintro ⟨k, h1, h2, h3⟩
    rw [bt_bs _ _ _ (by omega)] at h2
    refine ⟨k, h1, ?_, h3⟩
    simpa [h1] using h2
theorem mm_wi (r : Int32) : (if 0 < (if 100 < r then 100 else r) then (if 100 < r then 100 else r) else 0) = wiS r 100 := by
  unfold wiS
  by_cases h : 100 < r
  · rw [if_pos h, if_pos (by decide : (0 : Int32) < 100)]
    have h0 : (0 : Int32) ≤ r := by rw [Int32.le_iff_toInt_le]; rw [Int32.lt_iff_toInt_lt] at h; have : (100 : Int32).toInt = 100 := by decide
                                    have e0 : (0 : Int32).toInt = 0 := by decide
                                    omega
    rw [if_pos h0, if_neg (Int32.not_le.mpr h)]
  · rw [if_neg h]
    have h100 : r ≤ 100 := Int32.not_lt.mp h
    by_cases h0 : 0 ≤ r
    · rw [if_pos h0, if_pos h100]
      by_cases h1 : 0 < r
      · rw [if_pos h1]
      · rw [if_neg h1]
        exact Int32.le_antisymm h0 (Int32.not_lt.mp h1)
    · rw [if_neg h0, if_neg (fun q => h0 (Int32.le_of_lt q))]
section
variable {l : Launch} {G : GT} {D : Nat} {M : Mem} {R : Option Value → Mem → Prop} {b : Nat} {s : Nat → Int32}
theorem sX1_readBy {k a : Nat} (hb : IsLd b) (hD : 4 ≤ D) (hL : LR M b s) (hk : k < 8) (ha : a < 10) (hR : R (some (.int (rdS s k (nI a)))) M) : Tr l G D mX1_readBy [.ref (G.1 b), .int (nI k), .int (nI a)] M R := by
  obtain ⟨d, rfl⟩ := dE hD
  obtain ⟨-, g1, g2, g3, g4, g5, g6, g7, g8⟩ := hL
  have hv8 : vp_in (nI k) 8 := vpn hk (by decide)
  have hv10 : vp_in (nI a) 10 := vpn ha (by decide)
  refine tX1_readBy hb ?_
  rw [ix_nI (show k < 2 ^ 31 by omega), ix_nI (show a < 2 ^ 31 by omega), g1 k hk, g4 k hk, g7 a ha]
  unfold rdS at hR
  refine ⟨hv8, hv8, fun h => ⟨hv10, ?_⟩, fun h => ?_, fun h => ⟨hv10, ?_⟩, fun h => ⟨hv10, ?_⟩, fun h2 h3 h4 h5 => ?_⟩
  · rw [if_pos h] at hR
    exact hR
  · rw [if_neg (fun q => absurd (h.symm.trans q) (by decide)), if_pos h] at hR
    exact hR
  · rw [if_neg (fun q => absurd (h.symm.trans q) (by decide)), if_neg (fun q => absurd (h.symm.trans q) (by decide)), if_pos h] at hR
    exact hR
  · rw [if_neg (fun q => absurd (h.symm.trans q) (by decide)), if_neg (fun q => absurd (h.symm.trans q) (by decide)), if_neg (fun q => absurd (h.symm.trans q) (by decide)), if_pos h, and_cm] at hR
    exact hR
  · rw [if_neg h2, if_neg h3, if_neg h4, if_neg h5] at hR
    exact hR
theorem sX1_readByThoseIn {a : Nat} (hb : IsLd b) (hD : 8 ≤ D) (hL : LR M b s) (hP : PI s) (ha : a < 10) (hR : R (some (.int (rbS s (nI a)))) M) : Tr l G D mX1_readByThoseIn [.ref (G.1 b), .int (nI a)] M R := by
  obtain ⟨d, rfl⟩ := dE (show 4 ≤ D by omega)
  have h8 := hP.2
  have hL0 := hL
  obtain ⟨⟨a1, -⟩, g1, g2, g3, g4, g5, g6, g7, g8⟩ := hL
  refine tX1_readByThoseIn hb ?_
  refine upL (fun k => At l G (d + 4) mX1_readByThoseIn 4 [some (.ref (G.1 b)), some (.int (nI a)), some (.int (bo (fun k => decide (pl s k = nI a)) (fun k => rdS s k (nI a)) k)), some (.int (nI k))] [] M R) (np s) ?_ ?_ 0 (Nat.zero_le _)
  · refine bX1_readByThoseIn_4 hb ⟨fun _ => hR, fun h => absurd ?_ h⟩
    rw [a1, hP.1, le_nI (by omega) (by omega)]
    exact Nat.le_refl _
  · intro k hk ih
    refine bX1_readByThoseIn_4 hb ⟨fun h => absurd h ?_, fun _ => ⟨vpn (by omega) (by decide), ?_⟩⟩
    · rw [a1, hP.1, le_nI (by omega) (by omega)]
      omega
    · rw [ix_nI (by omega), g2 k (by omega), p1]
      simp only [bo] at ih
      refine ⟨fun h => ?_, fun h => ?_⟩
      · rw [if_pos (by simp [h])] at ih
        refine sX1_readBy hb (by omega) hL0 (by omega) ha (kI_i (bX1_readByThoseIn_29 hb ?_))
        rw [p1]
        exact ih
      · rw [if_neg (by simp [h])] at ih
        exact ih
theorem nm_UX {s : Nat → Int32} {t : Nat} (hw : WfT s t) (h0 : s (84 + 200 * t) = 0) (x y z : Int32) : evS s t (nmX x y z) = evS s t (nmU x y z) := by
  unfold evS
  refine rn_agree hw (fun i hi h1 => ?_) _ (Nat.le_refl _) 0 (by rw [hw.2.2.2.1]; exact Nat.one_pos)
  have hq : nmOk (s (84 + 200 * t)) (tVa s t i) := by
    rcases hw.2.2.2.2 i hi with h | h | h
    · exact absurd (h1.symm.trans h.1) (by decide)
    · exact h.2
    · exact absurd (h1.symm.trans h.1) (by decide)
  rw [h0] at hq
  unfold nmOk at hq
  rcases hq with ⟨-, h | h | h⟩ | ⟨h, -⟩ | ⟨h, -⟩
  · rw [h]; rfl
  · rw [h]; rfl
  · rw [h]; rfl
  · exact absurd h (by decide)
  · exact absurd h (by decide)
theorem sX1_urgeOf {k : Nat} (hb : IsLd b) (hD : 12 ≤ D) (hX : XS M b s) (hk : k < 8) (hR : ∀ M', Ag [6] M M' → R (some (.int (urS s k))) M') : Tr l G D mX1_urgeOf [.ref (G.1 b), .int (nI k)] M R := by
  obtain ⟨d, rfl⟩ := dE (show 4 ≤ D by omega)
  obtain ⟨⟨⟨a1, a2, a3, a4, a5, a6, a7, a8, a9, a10, a11⟩, g1, g2, g3, g4, g5, g6, g7, g8⟩, hI, hLW⟩ := hX
  have hT := hI.2.2.1
  have h14 := hT.2.1
  refine tX1_urgeOf hb ?_
  rw [ix_nI (by omega), g8 0 (by decide), a4, g3 k hk, g2 k hk]
  have hv8 : vp_in (nI k) 8 := vpn hk (by decide)
  rw [show nI 0 = (0 : Int32) from rfl]
  rcases cn_is s 0 (nt s) with q | ⟨t, h1, h2, h3⟩
  · have q : ctS s 0 = -1 := q
    have hur : urS s k = s 4 := by unfold urS; rw [if_neg (by rw [q]; decide)]
    have ho : onS (ctS s 0) = -1000000005 := by rw [q]; rfl
    rw [ho]
    refine ⟨fun _ => ?_, fun h => absurd rfl h⟩
    have := hR M (Ag.rf _ M)
    rw [hur] at this
    exact this
  · have h2 : ctS s 0 = nI t := h2
    have hpos : (0 : Int32) ≤ ctS s 0 := by rw [h2]; exact zl t (by omega)
    have hur : urS s k = wiS (evS s t (nmU (s 4) (ag s k) (pl s k))) 100 := by unfold urS; rw [if_pos hpos, h2, ix_nI (by omega)]
    have ho : onS (ctS s 0) = nI t := by unfold onS; rw [if_neg (Int32.not_lt.mpr hpos), h2]
    rw [ho]
    have hne : ¬ nI t = -1000000005 := by
      intro e
      have := zl t (by omega)
      rw [e] at this
      exact absurd this (by decide)
    refine ⟨fun h => absurd h hne, fun _ => ⟨hv8, hv8, sX2_valueOf (by omega) (by omega) (hT.2.2 t h1) (hLW t h1) ?_⟩⟩
    intro M' hA
    refine kI_i (bX1_urgeOf_42 ?_)
    rw [mm_wi, nm_UX (hT.2.2 t h1) h3]
    have := hR M' hA
    rw [hur] at this
    exact this
theorem sX0_isUnder {a c : Nat} (hD : 4 ≤ D) (ha : a < 6) (hc : c < 6) (hR : R (some (.int (if a = c ∨ c = 0 ∨ (c = 1 ∧ a = 3) ∨ (c = 2 ∧ a = 4) then 1 else 0))) M) : Tr l G D mX0_isUnder [.int (nI a), .int (nI c)] M R := by
  obtain ⟨d, rfl⟩ := dE hD
  refine tX0_isUnder ?_
  have stop : ∀ (v3 : Int32), R (some (.int 0)) M → At l G (d + 4) mX0_isUnder 4 [none, some (.int (nI c)), some (.int (-1)), some (.int v3)] [] M R := by
    intro v3 h
    exact bX0_isUnder_4 ⟨fun _ => h, fun _ => ⟨fun _ => h, fun q => absurd (by decide) q⟩⟩
  have last : ∀ (v3 : Int32), ¬ 6 ≤ v3 → R (some (.int (if c = 0 then 1 else 0))) M → At l G (d + 4) mX0_isUnder 4 [none, some (.int (nI c)), some (.int 0), some (.int v3)] [] M R := by
    intro v3 h3 h
    refine bX0_isUnder_4 ⟨fun q => absurd q h3, fun _ => ⟨fun q => absurd q (by decide), fun _ => ⟨fun q => absurd q (by decide), fun _ => ⟨fun q => ?_, fun q => ⟨vpc (by decide), stop _ ?_⟩⟩⟩⟩⟩
    · have : c = 0 := (nI_inj (a := 0) (by decide) (by omega) q).symm
      rw [if_pos this] at h; exact h
    · rw [if_neg (fun e => q (by rw [e]; rfl))] at h; exact h
  have step1 : ∀ (a0 : Nat) (x : Int32), nI a0 = x → a0 < 6 → kav x = 0 → ∀ v3, ¬ 6 ≤ v3 → ¬ 6 ≤ v3 + 1 → R (some (.int (if a0 = c then 1 else if c = 0 then 1 else 0))) M → At l G (d + 4) mX0_isUnder 4 [none, some (.int (nI c)), some (.int x), some (.int v3)] [] M R := by
    intro a0 x hx h6 hk v3 h3 h4 h
    subst hx
    refine bX0_isUnder_4 ⟨fun q => absurd q h3, fun _ => ⟨fun q => absurd q (nI_pos (by omega)), fun _ => ⟨fun q => absurd q ?_, fun _ => ⟨fun q => ?_, fun q => ⟨vpn h6 (by decide), ?_⟩⟩⟩⟩⟩
    · rw [show (6 : Int32) = nI 6 from rfl, le_nI (by omega) (by omega)]; omega
    · have : a0 = c := nI_inj (by omega) (by omega) q
      rw [if_pos this] at h; exact h
    · rw [hk]
      rw [if_neg (fun e => q (by rw [e]))] at h
      exact last _ h4 h
  have step2 : ∀ (a0 a1 : Nat), a0 < 6 → a1 < 6 → kav (nI a0) = nI a1 → kav (nI a1) = 0 → R (some (.int (if a0 = c then 1 else if a1 = c then 1 else if c = 0 then 1 else 0))) M → At l G (d + 4) mX0_isUnder 4 [none, some (.int (nI c)), some (.int (nI a0)), some (.int 0)] [] M R := by
    intro a0 a1 h6 h61 hk hk1 h
    refine bX0_isUnder_4 ⟨fun q => absurd q (by decide), fun _ => ⟨fun q => absurd q (nI_pos (by omega)), fun _ => ⟨fun q => absurd q ?_, fun _ => ⟨fun q => ?_, fun q => ⟨vpn h6 (by decide), ?_⟩⟩⟩⟩⟩
    · rw [show (6 : Int32) = nI 6 from rfl, le_nI (by omega) (by omega)]; omega
    · have : a0 = c := nI_inj (by omega) (by omega) q
      rw [if_pos this] at h; exact h
    · rw [hk]
      rw [if_neg (fun e => q (by rw [e]))] at h
      exact step1 a1 _ rfl h61 hk1 _ (by decide) (by decide) h
  rcases (show a = 0 ∨ a = 1 ∨ a = 2 ∨ a = 3 ∨ a = 4 ∨ a = 5 by omega) with e | e | e | e | e | e <;> subst e
  · refine last 0 (by decide) ?_
    by_cases h : c = 0
    · rw [if_pos h]; rw [if_pos (Or.inr (Or.inl h))] at hR; exact hR
    · rw [if_neg h]; rw [if_neg (by omega)] at hR; exact hR
  · refine step1 1 _ rfl (by decide) (by decide) 0 (by decide) (by decide) ?_
    by_cases h : 1 = c
    · rw [if_pos h]; rw [if_pos (Or.inl h)] at hR; exact hR
    · rw [if_neg h]
      by_cases h0 : c = 0
      · rw [if_pos h0]; rw [if_pos (Or.inr (Or.inl h0))] at hR; exact hR
      · rw [if_neg h0]; rw [if_neg (by omega)] at hR; exact hR
  · refine step1 2 _ rfl (by decide) (by decide) 0 (by decide) (by decide) ?_
    by_cases h : 2 = c
    · rw [if_pos h]; rw [if_pos (Or.inl h)] at hR; exact hR
    · rw [if_neg h]
      by_cases h0 : c = 0
      · rw [if_pos h0]; rw [if_pos (Or.inr (Or.inl h0))] at hR; exact hR
      · rw [if_neg h0]; rw [if_neg (by omega)] at hR; exact hR
  · refine step2 3 1 (by decide) (by decide) (by decide) (by decide) ?_
    by_cases h : 3 = c
    · rw [if_pos h]; rw [if_pos (Or.inl h)] at hR; exact hR
    · rw [if_neg h]
      by_cases h1 : 1 = c
      · rw [if_pos h1]; rw [if_pos (by omega)] at hR; exact hR
      · rw [if_neg h1]
        by_cases h0 : c = 0
        · rw [if_pos h0]; rw [if_pos (Or.inr (Or.inl h0))] at hR; exact hR
        · rw [if_neg h0]; rw [if_neg (by omega)] at hR; exact hR
  · refine step2 4 2 (by decide) (by decide) (by decide) (by decide) ?_
    by_cases h : 4 = c
    · rw [if_pos h]; rw [if_pos (Or.inl h)] at hR; exact hR
    · rw [if_neg h]
      by_cases h1 : 2 = c
      · rw [if_pos h1]; rw [if_pos (by omega)] at hR; exact hR
      · rw [if_neg h1]
        by_cases h0 : c = 0
        · rw [if_pos h0]; rw [if_pos (Or.inr (Or.inl h0))] at hR; exact hR
        · rw [if_neg h0]; rw [if_neg (by omega)] at hR; exact hR
  · refine step1 5 _ rfl (by decide) (by decide) 0 (by decide) (by decide) ?_
    by_cases h : 5 = c
    · rw [if_pos h]; rw [if_pos (Or.inl h)] at hR; exact hR
    · rw [if_neg h]
      by_cases h0 : c = 0
      · rw [if_pos h0]; rw [if_pos (Or.inr (Or.inl h0))] at hR; exact hR
      · rw [if_neg h0]; rw [if_neg (by omega)] at hR; exact hR
theorem sX0_learns {a : Nat} (hD : 8 ≤ D) (ha : a < 6) (hR : R (some (.int (if a = 2 ∨ a = 4 then 0 else 1))) M) : Tr l G D mX0_learns [.int (nI a)] M R := by
  obtain ⟨d, rfl⟩ := dE (show 4 ≤ D by omega)
  refine tX0_learns (sX0_isUnder (c := 2) (by omega) ha (by decide) (kI_i (bX0_learns_5 ?_)))
  by_cases h : a = 2 ∨ a = 4
  · rw [if_pos h] at hR
    rw [if_pos (by omega)]
    exact ⟨fun q => absurd q (by decide), fun _ => hR⟩
  · rw [if_neg h] at hR
    rw [if_neg (by omega)]
    exact ⟨fun _ => hR, fun q => absurd rfl q⟩
end
