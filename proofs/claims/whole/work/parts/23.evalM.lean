-- what a text gives
theorem um_s (M : Mem) (k j : Nat) (v : Int32) : um M k j v k = upd (M k) j v := ua_s _ _ _
theorem um_n (M : Mem) {k a : Nat} (j : Nat) (v : Int32) (h : a ≠ k) : um M k j v a = M a := ua_n _ _ h
theorem div_m1 (x : Int32) : x / (-1) = -x := by
  apply Int32.toInt_inj.1
  have e : (-1 : Int32).toInt = -1 := by decide
  rw [Int32.toInt_div, e, Int32.toInt_neg, Int.tdiv_neg, Int.tdiv_one]
def joI (c x y : Int32) : Int32 :=
  if c = 43 then x + y else if c = 45 then x - y else if c = 42 then x * y else if c = 47 then (if y = 0 then 0 else x / y)
  else if c = 60 then (if y ≤ x then 0 else 1) else if c = 62 then (if x ≤ y then 0 else 1) else if c = 61 then (if x = y then 1 else 0)
  else if c = 38 then (if x = 0 then 0 else if y = 0 then 0 else 1) else (if x = 0 then (if y = 0 then 0 else 1) else 1)
abbrev nt (s : Nat → Int32) : Nat := ix (s 1)
abbrev tMany (s : Nat → Int32) (t : Nat) : Nat := ix (s (86 + 200 * t))
abbrev tWh (s : Nat → Int32) (t i : Nat) : Int32 := s (88 + 200 * t + 2 * i)
abbrev tVa (s : Nat → Int32) (t i : Nat) : Int32 := s (89 + 200 * t + 2 * i)
def stp (nm : Nat → Int32) (wh v : Int32) (q : Nat × (Nat → Int32)) : Nat × (Nat → Int32) :=
  if wh = 2 then (if v = 33 then (q.1, upd q.2 (q.1 - 1) (if q.2 (q.1 - 1) = 0 then 1 else 0)) else (q.1 - 1, upd q.2 (q.1 - 2) (joI v (q.2 (q.1 - 2)) (q.2 (q.1 - 1)))))
  else (q.1 + 1, upd q.2 q.1 (if wh = 0 then v else nm (ix v)))
def rnS (s : Nat → Int32) (t : Nat) (nm : Nat → Int32) (f0 : Nat → Int32) : Nat → Nat × (Nat → Int32)
  | 0 => (0, f0)
  | i + 1 => stp nm (tWh s t i) (tVa s t i) (rnS s t nm f0 i)
def hgS (s : Nat → Int32) (t : Nat) : Nat → Nat
  | 0 => 0
  | i + 1 => if tWh s t i = 2 then (if tVa s t i = 33 then hgS s t i else hgS s t i - 1) else hgS s t i + 1
def nmOk (q v : Int32) : Prop := (q = 0 ∧ (v = 119 ∨ v = 97 ∨ v = 111)) ∨ (q = 1 ∧ (v = 107 ∨ v = 105)) ∨ (q = 2 ∧ (v = 115 ∨ v = 112))
def WfT (s : Nat → Int32) (t : Nat) : Prop :=
  (s (84 + 200 * t) = 0 ∨ s (84 + 200 * t) = 1 ∨ s (84 + 200 * t) = 2) ∧ s (86 + 200 * t) = nI (tMany s t) ∧ tMany s t ≤ 96 ∧ hgS s t (tMany s t) = 1 ∧
  ∀ i, i < tMany s t → (tWh s t i = 0 ∧ ∃ x, x < 10000 ∧ tVa s t i = nI x) ∨ (tWh s t i = 1 ∧ nmOk (s (84 + 200 * t)) (tVa s t i)) ∨ (tWh s t i = 2 ∧ ((tVa s t i = 33 ∧ 1 ≤ hgS s t i) ∨ ((tVa s t i = 124 ∨ tVa s t i = 38 ∨ tVa s t i = 60 ∨ tVa s t i = 61 ∨ tVa s t i = 62 ∨ tVa s t i = 43 ∨ tVa s t i = 45 ∨ tVa s t i = 42 ∨ tVa s t i = 47) ∧ 2 ≤ hgS s t i)))
def TI (s : Nat → Int32) : Prop := s 1 = nI (nt s) ∧ nt s ≤ 14 ∧ ∀ t, t < nt s → WfT s t
theorem hg_le (s : Nat → Int32) (t : Nat) : ∀ i, hgS s t i ≤ i
  | 0 => Nat.le_refl 0
  | i + 1 => by
    have := hg_le s t i
    simp only [hgS]
    split
    · split <;> omega
    · omega
theorem rn_fst (s : Nat → Int32) (t : Nat) (nm f0 : Nat → Int32) : ∀ i, (rnS s t nm f0 i).1 = hgS s t i
  | 0 => rfl
  | i + 1 => by
    have ih := rn_fst s t nm f0 i
    simp only [rnS, stp, hgS]
    split
    · split
      · exact ih
      · simp only [ih]
    · simp only [ih]
/-- the names and the place below: the same answer -/
theorem rn_agree {s : Nat → Int32} {t : Nat} (hw : WfT s t) {nm nm' f0 f0' : Nat → Int32} (hn : ∀ i, i < tMany s t → tWh s t i = 1 → nm (ix (tVa s t i)) = nm' (ix (tVa s t i))) : ∀ i, i ≤ tMany s t → ∀ j, j < hgS s t i → (rnS s t nm f0 i).2 j = (rnS s t nm' f0' i).2 j
  | 0, _, j, hj => absurd hj (Nat.not_lt_zero j)
  | i + 1, hi, j, hj => by
    have ih := rn_agree hw hn (f0 := f0) (f0' := f0') i (by omega)
    have e1 := rn_fst s t nm f0 i
    have e2 := rn_fst s t nm' f0' i
    have hs := hw.2.2.2.2 i (by omega)
    simp only [hgS] at hj
    simp only [rnS, stp, e1, e2]
    by_cases h2 : tWh s t i = 2
    · rw [if_pos h2] at hj
      rw [if_pos h2, if_pos h2]
      have hs2 : (tVa s t i = 33 ∧ 1 ≤ hgS s t i) ∨ ((tVa s t i = 124 ∨ tVa s t i = 38 ∨ tVa s t i = 60 ∨ tVa s t i = 61 ∨ tVa s t i = 62 ∨ tVa s t i = 43 ∨ tVa s t i = 45 ∨ tVa s t i = 42 ∨ tVa s t i = 47) ∧ 2 ≤ hgS s t i) := by
        rcases hs with h | h | h
        · exact absurd (h2.symm.trans h.1) (by decide)
        · exact absurd (h2.symm.trans h.1) (by decide)
        · exact h.2
      by_cases h33 : tVa s t i = 33
      · rw [if_pos h33] at hj
        rw [if_pos h33, if_pos h33]
        have hh : 1 ≤ hgS s t i := by
          rcases hs2 with h | h
          · exact h.2
          · omega
        simp only
        rw [ih (hgS s t i - 1) (by omega)]
        by_cases e : j = hgS s t i - 1
        · rw [e, pk_us, pk_us]
        · rw [pk_un e, pk_un e, ih j hj]
      · rw [if_neg h33] at hj
        rw [if_neg h33, if_neg h33]
        have hh : 2 ≤ hgS s t i := by
          rcases hs2 with h | h
          · exact absurd h.1 h33
          · exact h.2
        clear hs hs2
        simp only
        rw [ih (hgS s t i - 1) (by omega), ih (hgS s t i - 2) (by omega)]
        by_cases e : j = hgS s t i - 2
        · rw [e, pk_us, pk_us]
        · rw [pk_un e, pk_un e, ih j (by omega)]
    · rw [if_neg h2] at hj
      rw [if_neg h2, if_neg h2]
      simp only
      have ev : (if tWh s t i = 0 then tVa s t i else nm (ix (tVa s t i))) = (if tWh s t i = 0 then tVa s t i else nm' (ix (tVa s t i))) := by
        by_cases h0 : tWh s t i = 0
        · rw [if_pos h0, if_pos h0]
        · rw [if_neg h0, if_neg h0]
          refine hn i (by omega) ?_
          rcases hs with h | h | h
          · exact absurd h.1 h0
          · exact h.1
          · exact absurd h.1 h2
      rw [ev]
      by_cases e : j = hgS s t i
      · rw [e, pk_us, pk_us]
      · rw [pk_un e, pk_un e, ih j (by omega)]
def evS (s : Nat → Int32) (t : Nat) (nm : Nat → Int32) : Int32 := (rnS s t nm (fun _ => 0) (tMany s t)).2 0
def cnS (s : Nat → Int32) (key : Int32) : Nat → Int32
  | 0 => -1
  | t + 1 => if s (84 + 200 * t) = key then nI t else cnS s key t
abbrev ctS (s : Nat → Int32) (key : Int32) : Int32 := cnS s key (nt s)
theorem cn_is (s : Nat → Int32) (key : Int32) : ∀ n, cnS s key n = -1 ∨ ∃ t, t < n ∧ cnS s key n = nI t ∧ s (84 + 200 * t) = key
  | 0 => Or.inl rfl
  | n + 1 => by
    simp only [cnS]
    by_cases h : s (84 + 200 * n) = key
    · rw [if_pos h]
      exact Or.inr ⟨n, by omega, rfl, h⟩
    · rw [if_neg h]
      rcases cn_is s key n with q | ⟨t, h1, h2, h3⟩
      · exact Or.inl q
      · exact Or.inr ⟨t, by omega, h2, h3⟩
def nmU (a b c : Int32) : Nat → Int32 := fun j => if j = 119 then a else if j = 97 then b else if j = 111 then c else 0
def wiS (v : Int32) (most : Int32) : Int32 := if 0 ≤ v then (if v ≤ most then v else most) else 0
def urS (s : Nat → Int32) (k : Nat) : Int32 := if 0 ≤ ctS s 0 then wiS (evS s (ix (ctS s 0)) (nmU (s 4) (ag s k) (pl s k))) 100 else s 4
theorem tx0 (t : Nat) : 84 + 200 * nI t = nI (84 + 200 * t) := by
  show nI 84 + nI 200 * nI t = _
  rw [pk_mul, nI_add]
theorem tx2 (t : Nat) : 84 + 200 * nI t + 2 = nI (86 + 200 * t) := by
  rw [tx0]
  show nI _ + nI 2 = _
  rw [nI_add, show 84 + 200 * t + 2 = 86 + 200 * t by omega]
theorem tx4 (t i : Nat) : 84 + 200 * nI t + 4 + 2 * nI i = nI (88 + 200 * t + 2 * i) := by
  rw [tx0]
  show nI _ + nI 4 + nI 2 * nI i = _
  rw [nI_add, pk_mul, nI_add, show 84 + 200 * t + 4 + 2 * i = 88 + 200 * t + 2 * i by omega]
theorem tx5 (t i : Nat) : 84 + 200 * nI t + 4 + 2 * nI i + 1 = nI (89 + 200 * t + 2 * i) := by
  rw [tx4, p1, show 88 + 200 * t + 2 * i + 1 = 89 + 200 * t + 2 * i by omega]
/-- agree but in these cells -/
def Ag (ks : List Nat) (M M' : Mem) : Prop := ∀ k, k ∉ ks → M' k = M k
theorem Ag.rf (ks : List Nat) (M : Mem) : Ag ks M M := fun _ _ => rfl
theorem Ag.tr {ks : List Nat} {M M' M'' : Mem} (h : Ag ks M M') (h2 : Ag ks M' M'') : Ag ks M M'' := fun k hk => (h2 k hk).trans (h k hk)
theorem Ag.ua {ks : List Nat} {M M' : Mem} (h : Ag ks M M') {k : Nat} (hk : k ∈ ks) (f : Nat → Int32) : Ag ks M (ua M' k f) := fun j hj => (ua_n M' f (fun e => hj (by rw [e]; exact hk))).trans (h j hj)
theorem Ag.sub {ks ks' : List Nat} {M M' : Mem} (h : Ag ks M M') (hs : ∀ k ∈ ks, k ∈ ks') : Ag ks' M M' := fun k hk => h k (fun q => hk (hs k q))
section
variable {l : Launch} {G : GT} {D : Nat} {M : Mem} {R : Option Value → Mem → Prop}
theorem sX8_joined {c x y : Int32} (hD : 4 ≤ D) (hR : R (some (.int (joI c x y))) M) : Tr l G D mX8_joined [.int c, .int x, .int y] M R := by
  obtain ⟨d, rfl⟩ := dE hD
  have dft : ∀ (c0 : Int32), joI c0 x y = (if x = 0 then (if y = 0 then 0 else 1) else 1) → c = c0 → ((x = 0 → (y = 0 → R (some (.int 0)) M) ∧ (¬ (y = 0) → R (some (.int 1)) M)) ∧ (¬ (x = 0) → R (some (.int 1)) M)) := by
    intro c0 h hc
    subst hc
    rw [h] at hR
    refine ⟨fun h1 => ⟨fun h2 => ?_, fun h2 => ?_⟩, fun h1 => ?_⟩
    · rw [if_pos h1, if_pos h2] at hR; exact hR
    · rw [if_pos h1, if_neg h2] at hR; exact hR
    · rw [if_neg h1] at hR; exact hR
  refine tX8_joined ⟨fun h => ?_, dft 39 rfl, dft 40 rfl, dft 41 rfl, fun h => ?_, fun h => ?_, dft 44 rfl, fun h => ?_, dft 46 rfl, fun h => ?_, dft 48 rfl, dft 49 rfl, dft 50 rfl, dft 51 rfl, dft 52 rfl, dft 53 rfl, dft 54 rfl, dft 55 rfl, dft 56 rfl, dft 57 rfl, dft 58 rfl, dft 59 rfl, fun h => ?_, fun h => ?_, fun h => ?_, fun a38 _ _ _ a42 a43 _ a45 _ a47 _ _ _ _ _ _ _ _ _ _ _ _ a60 a61 a62 => dft c ?_ rfl⟩
  · subst h
    have hR : R (some (.int (if x = 0 then 0 else if y = 0 then 0 else 1))) M := hR
    refine ⟨fun h1 => ?_, fun h1 => ⟨fun h2 => ?_, fun h2 => ?_⟩⟩
    · rw [if_pos h1] at hR; exact hR
    · rw [if_neg h1, if_pos h2] at hR; exact hR
    · rw [if_neg h1, if_neg h2] at hR; exact hR
  · subst h; exact hR
  · subst h; exact hR
  · subst h; exact hR
  · subst h
    have hR : R (some (.int (if y = 0 then 0 else x / y))) M := hR
    refine ⟨fun h1 => ?_, fun h1 => ⟨fun h2 => ?_, fun h2 => ⟨h1, ?_⟩⟩⟩
    · rw [if_pos h1] at hR; exact hR
    · rw [if_neg h1, h2, div_m1] at hR; exact hR
    · rw [if_neg h1] at hR; exact hR
  · subst h
    have hR : R (some (.int (if y ≤ x then 0 else 1))) M := hR
    refine ⟨fun h1 => ?_, fun h1 => ?_⟩
    · rw [if_pos h1] at hR; exact hR
    · rw [if_neg h1] at hR; exact hR
  · subst h
    have hR : R (some (.int (if x = y then 1 else 0))) M := hR
    refine ⟨fun h1 => ?_, fun h1 => ?_⟩
    · rw [if_pos h1] at hR; exact hR
    · rw [if_neg h1] at hR; exact hR
  · subst h
    have hR : R (some (.int (if x ≤ y then 0 else 1))) M := hR
    refine ⟨fun h1 => ?_, fun h1 => ?_⟩
    · rw [if_pos h1] at hR; exact hR
    · rw [if_neg h1] at hR; exact hR
  · unfold joI
    rw [if_neg a43, if_neg a45, if_neg a42, if_neg a47, if_neg a60, if_neg a62, if_neg a61, if_neg a38]
theorem sX8_counts {key : Int32} (hD : 4 ≤ D) (hT : M 101 1 = nI (nt (M 101)) ∧ nt (M 101) ≤ 14) (hR : R (some (.int (ctS (M 101) key))) M) : Tr l G D mX8_counts [.ref (G.1 100), .int key] M R := by
  obtain ⟨d, rfl⟩ := dE hD
  refine tX8_counts ?_
  have h14 := hT.2
  refine upL (fun t => At l G (d + 4) mX8_counts 4 [some (.ref (G.1 100)), some (.int key), some (.int (cnS (M 101) key t)), some (.int (nI t))] [] M R) (nt (M 101)) ?_ ?_ 0 (Nat.zero_le _)
  · refine bX8_counts_4 ⟨fun _ => hR, fun h => absurd ?_ h⟩
    rw [hT.1, le_nI (by omega) (by omega)]
    exact Nat.le_refl _
  · intro t ht ih
    refine bX8_counts_4 ⟨fun h => absurd h ?_, fun _ => ⟨by rw [tx0]; exact vpn (by omega) (by decide), ?_⟩⟩
    · rw [hT.1, le_nI (by omega) (by omega)]
      omega
    · rw [tx0, ix_nI (by omega), p1]
      simp only [cnS] at ih
      refine ⟨fun h => ?_, fun h => ?_⟩
      · rw [if_pos h] at ih; exact ih
      · rw [if_neg h] at ih; exact ih
theorem sX8_worked {t : Nat} (hD : 8 ≤ D) (ht : t < 14) (hw : WfT (M 101) t) (nm : Nat → Int32) (hn : ∀ i, i < tMany (M 101) t → tWh (M 101) t i = 1 → M 115 (ix (tVa (M 101) t i)) = nm (ix (tVa (M 101) t i))) (hR : ∀ M', Ag [116] M M' → R (some (.int (evS (M 101) t nm))) M') : Tr l G D mX8_worked [.ref (G.1 100), .int (nI t)] M R := by
  obtain ⟨d, rfl⟩ := dE (show 4 ≤ D by omega)
  have h96 := hw.2.2.1
  have hmany := hw.2.1
  refine tX8_worked ?_
  have loop : ∀ i, i ≤ tMany (M 101) t → ∀ M', Ag [116] M M' → M' 116 = (rnS (M 101) t (M 115) (M 116) i).2 → At l G (d + 4) mX8_worked 4 [some (.ref (G.1 100)), some (.int (nI t)), some (.int (nI (hgS (M 101) t i))), some (.int (nI i)), none, none] [] M' R := by
    refine upL (fun i => ∀ M', Ag [116] M M' → M' 116 = (rnS (M 101) t (M 115) (M 116) i).2 → At l G (d + 4) mX8_worked 4 [some (.ref (G.1 100)), some (.int (nI t)), some (.int (nI (hgS (M 101) t i))), some (.int (nI i)), none, none] [] M' R) (tMany (M 101) t) ?_ ?_
    · intro M' hA hp
      have e101 : M' 101 = M 101 := hA 101 (by decide)
      refine bX8_worked_4 ⟨by rw [tx2]; exact vpn (by omega) (by decide), fun _ => ?_, fun h => absurd ?_ h⟩
      · rw [hp, rn_agree hw hn (f0' := fun _ => 0) (tMany (M 101) t) (Nat.le_refl _) 0 (by rw [hw.2.2.2.1]; exact Nat.one_pos)]
        exact hR M' hA
      · rw [tx2, ix_nI (by omega), e101, hmany]
        exact Int32.le_refl _
    · intro i hi ih M' hA hp
      have e101 : M' 101 = M 101 := hA 101 (by decide)
      have e115 : M' 115 = M 115 := hA 115 (by decide)
      have hle := hg_le (M 101) t i
      have hs := hw.2.2.2.2 i hi
      have efst := rn_fst (M 101) t (M 115) (M 116) i
      simp only [rnS, stp, efst] at ih
      simp only [hgS] at ih
      refine bX8_worked_4 ⟨by rw [tx2]; exact vpn (by omega) (by decide), fun h => absurd h ?_, fun _ => ⟨by rw [tx4]; exact vpn (by omega) (by decide), by rw [tx5]; exact vpn (by omega) (by decide), ?_⟩⟩
      · rw [tx2, ix_nI (by omega), e101, hmany, le_nI (by omega) (by omega)]
        omega
      rw [tx5, tx4, ix_nI (by omega), ix_nI (by omega), e101, e115, p1]
      refine ⟨fun h2 => ⟨fun h33 => ?_, fun h33 => ?_⟩, fun h2 => ⟨fun h0 => ⟨vpn (by omega) (by decide), ?_⟩, fun h0 => ?_⟩⟩
      · have hh : 1 ≤ hgS (M 101) t i := by
          rcases hs with h | h | h
          · exact absurd (h2.symm.trans h.1) (by decide)
          · exact absurd (h2.symm.trans h.1) (by decide)
          · rcases h.2 with h | h
            · exact h.2
            · omega
        have em : nI (hgS (M 101) t i) - 1 = nI (hgS (M 101) t i - 1) := pk_sub (a := hgS (M 101) t i) (b := 1) hh
        rw [if_pos h2, if_pos h2, if_pos h33, if_pos h33] at ih
        rw [em, ix_nI (by omega), hp]
        have hv : vp_in (nI (hgS (M 101) t i - 1)) 100 := vpn (by omega) (by decide)
        refine ⟨hv, fun hz => ⟨hv, ih _ (hA.ua (by decide) _) ?_⟩, fun hz => ⟨hv, ih _ (hA.ua (by decide) _) ?_⟩⟩
        · rw [if_pos hz, um_s, hp]
        · rw [if_neg hz, um_s, hp]
      · have hh : 2 ≤ hgS (M 101) t i := by
          rcases hs with h | h | h
          · exact absurd (h2.symm.trans h.1) (by decide)
          · exact absurd (h2.symm.trans h.1) (by decide)
          · rcases h.2 with h | h
            · exact absurd h.1 h33
            · exact h.2
        have em : nI (hgS (M 101) t i) + (-1) = nI (hgS (M 101) t i - 1) := by rw [show hgS (M 101) t i = (hgS (M 101) t i - 1) + 1 by omega, pk_m1]; rfl
        have em2 : nI (hgS (M 101) t i - 1) - 1 = nI (hgS (M 101) t i - 2) := by rw [show hgS (M 101) t i - 2 = hgS (M 101) t i - 1 - 1 by omega]; exact pk_sub (a := hgS (M 101) t i - 1) (b := 1) (by omega)
        rw [if_pos h2, if_pos h2, if_neg h33, if_neg h33] at ih
        rw [em, em2, ix_nI (by omega), ix_nI (by omega), hp]
        refine ⟨vpn (by omega) (by decide), vpn (by omega) (by decide), sX8_joined (by omega) (kI_i (bX8_worked_156 ⟨vpn (by omega) (by decide), ?_⟩))⟩
        rw [p1, ix_nI (by omega)]
        exact ih _ (hA.ua (by decide) _) (by rw [um_s, hp])
      · rw [if_neg h2, if_neg h2, if_pos h0] at ih
        intro M1 hM1
        subst hM1
        rw [p1]
        exact ih _ (hA.ua (by decide) _) (by rw [um_s, ix_nI (by omega), hp])
      · rw [if_neg h2, if_neg h2, if_neg h0] at ih
        refine ⟨?_, vpn (by omega) (by decide), ?_⟩
        · have hq : nmOk (M 101 (84 + 200 * t)) (tVa (M 101) t i) := by
            rcases hs with h | h | h
            · exact absurd h.1 h0
            · exact h.2
            · exact absurd h.1 h2
          have : tVa (M 101) t i = 119 ∨ tVa (M 101) t i = 97 ∨ tVa (M 101) t i = 111 ∨ tVa (M 101) t i = 107 ∨ tVa (M 101) t i = 105 ∨ tVa (M 101) t i = 115 ∨ tVa (M 101) t i = 112 := by
            unfold nmOk at hq
            rcases hq with ⟨-, h | h | h⟩ | ⟨-, h | h⟩ | ⟨-, h | h⟩ <;> simp [h]
          rcases this with h | h | h | h | h | h | h <;> (show vp_in (tVa (M 101) t i) 128; rw [h]; exact vpc (by decide))
        · intro M1 hM1
          subst hM1
          rw [p1]
          exact ih _ (hA.ua (by decide) _) (by rw [um_s, ix_nI (by omega), hp])
  exact loop 0 (Nat.zero_le _) M (Ag.rf _ M) rfl
theorem sX8_urge {k : Nat} (hD : 12 ≤ D) (hk : k < 8) (hT : TI (M 101)) (hR : ∀ M', Ag [115, 116] M M' → R (some (.int (urS (M 101) k))) M') : Tr l G D mX8_urge [.ref (G.1 100), .int (nI k)] M R := by
  obtain ⟨d, rfl⟩ := dE (show 4 ≤ D by omega)
  have vv1 := v1 hk
  have vv2 := v2 hk
  refine tX8_urge (sX8_counts (by omega) ⟨hT.1, hT.2.1⟩ (kI_i (bX8_urge_5 ⟨fun h => ?_, fun h => ?_⟩)))
  · simp (disch := omega) only [forall_eq, ua_s, ua_ua, ua_n, e1, e2, vv1, vv2, true_and]
    rcases cn_is (M 101) 0 (nt (M 101)) with q | ⟨t, h1, h2, h3⟩
    · exact absurd h (by rw [show ctS (M 101) 0 = -1 from q]; decide)
    have h14 := hT.2.1
    have h2 : ctS (M 101) 0 = nI t := h2
    have hurs : urS (M 101) k = wiS (evS (M 101) t (nmU (M 101 4) (ag (M 101) k) (pl (M 101) k))) 100 := by
      unfold urS
      rw [if_pos h, h2, ix_nI (by omega)]
    rw [h2]
    have hwf := hT.2.2 t h1
    refine sX8_worked (by omega) (by omega) (by rw [ua_n _ _ (by decide)]; exact hwf) (nmU (M 101 4) (ag (M 101) k) (pl (M 101) k)) ?_ ?_
    · simp (disch := omega) only [ua_s, ua_n]
      intro i hi h1w
      have hq : nmOk (M 101 (84 + 200 * t)) (tVa (M 101) t i) := by
        rcases hwf.2.2.2.2 i hi with h | h | h
        · exact absurd (h1w.symm.trans h.1) (by decide)
        · exact h.2
        · exact absurd (h1w.symm.trans h.1) (by decide)
      rw [h3] at hq
      unfold nmOk at hq
      rcases hq with ⟨-, h | h | h⟩ | ⟨h, -⟩ | ⟨h, -⟩
      · rw [h]; rfl
      · rw [h]; rfl
      · rw [h]; rfl
      · exact absurd h (by decide)
      · exact absurd h (by decide)
    · intro M' hA
      have hA2 : Ag [115, 116] M M' := Ag.tr (Ag.ua (Ag.rf [115, 116] M) (by decide) _) (hA.sub (by decide))
      have hR2 := hR M' hA2
      rw [hurs] at hR2
      simp (disch := omega) only [ua_n]
      refine kI_i (bX8_urge_61 ?_)
      unfold wiS at hR2
      refine ⟨fun g1 => ⟨fun g2 => ?_, fun g2 => ?_⟩, fun g1 => ?_⟩
      · rw [if_pos g1, if_pos g2] at hR2; exact hR2
      · rw [if_pos g1, if_neg g2] at hR2; exact hR2
      · rw [if_neg g1] at hR2; exact hR2
  · have hR2 := hR M (Ag.rf _ M)
    unfold urS at hR2
    rw [if_neg h] at hR2
    exact hR2
end
