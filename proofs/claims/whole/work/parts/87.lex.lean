-- how a tape is read: words, and what a text is
def clS (t : Nat → Int32) (n i : Nat) : Nat := if n ≤ i then 0 else if 97 ≤ t i ∧ t i ≤ 122 then 1 else if 48 ≤ t i ∧ t i ≤ 57 then 2 else 3
theorem cl_le (t : Nat → Int32) (n i : Nat) : clS t n i ≤ 3 := by unfold clS; split <;> (try split) <;> (try split) <;> omega
theorem cl_0 {t : Nat → Int32} {n i : Nat} : clS t n i = 0 ↔ n ≤ i := by
  unfold clS
  by_cases h : n ≤ i
  · rw [if_pos h]; exact ⟨fun _ => h, fun _ => rfl⟩
  · rw [if_neg h]; exact ⟨fun q => by split at q <;> (try split at q) <;> omega, fun q => absurd q h⟩
theorem cl_1 {t : Nat → Int32} {n i : Nat} : clS t n i = 1 ↔ i < n ∧ 97 ≤ t i ∧ t i ≤ 122 := by
  unfold clS
  by_cases h : n ≤ i
  · rw [if_pos h]; exact ⟨fun q => absurd q (by decide), fun q => by omega⟩
  · rw [if_neg h]
    by_cases h1 : 97 ≤ t i ∧ t i ≤ 122
    · rw [if_pos h1]; exact ⟨fun _ => ⟨by omega, h1⟩, fun _ => rfl⟩
    · rw [if_neg h1]; exact ⟨fun q => by split at q <;> omega, fun q => absurd q.2 h1⟩
theorem cl_2 {t : Nat → Int32} {n i : Nat} : clS t n i = 2 ↔ i < n ∧ 48 ≤ t i ∧ t i ≤ 57 := by
  unfold clS
  by_cases h : n ≤ i
  · rw [if_pos h]; exact ⟨fun q => absurd q (by decide), fun q => by omega⟩
  · rw [if_neg h]
    by_cases h1 : 97 ≤ t i ∧ t i ≤ 122
    · rw [if_pos h1]
      refine ⟨fun q => absurd q (by decide), fun q => ?_⟩
      have a := h1.1
      have b := q.2.2
      simp only [tle, show (97 : Int32).toInt = 97 from rfl, show (57 : Int32).toInt = 57 from rfl] at a b
      omega
    · rw [if_neg h1]
      by_cases h2 : 48 ≤ t i ∧ t i ≤ 57
      · rw [if_pos h2]; exact ⟨fun _ => ⟨by omega, h2⟩, fun _ => rfl⟩
      · rw [if_neg h2]; exact ⟨fun q => absurd q (by decide), fun q => absurd q.2 h2⟩
def skF (t : Nat → Int32) (n : Nat) : Nat → Nat → Nat
  | 0, p => p
  | f + 1, p => if t p = 32 then skF t n f (p + 1) else p
def rnF (t : Nat → Int32) (n c : Nat) : Nat → Nat → Nat
  | 0, p => p
  | f + 1, p => if clS t n p = c then rnF t n c f (p + 1) else p
def skS (t : Nat → Int32) (n p : Nat) : Nat := skF t n (n - p) p
def runS (t : Nat → Int32) (n c p : Nat) : Nat := rnF t n c (n - p) p
theorem sk_go {t : Nat → Int32} {n p : Nat} (h : p < n) (h2 : t p = 32) : skS t n p = skS t n (p + 1) := by
  unfold skS
  rw [show n - p = (n - (p + 1)) + 1 by omega]
  show (if t p = 32 then skF t n (n - (p + 1)) (p + 1) else p) = _
  rw [if_pos h2]
theorem sk_stop {t : Nat → Int32} {n p : Nat} (h : n ≤ p ∨ ¬ t p = 32) : skS t n p = p := by
  unfold skS
  by_cases q : n ≤ p
  · rw [show n - p = 0 by omega]; rfl
  · rw [show n - p = (n - (p + 1)) + 1 by omega]
    show (if t p = 32 then skF t n (n - (p + 1)) (p + 1) else p) = _
    rw [if_neg (h.resolve_left q)]
theorem skF_in (t : Nat → Int32) (n : Nat) : ∀ f p, p ≤ skF t n f p ∧ skF t n f p ≤ p + f
  | 0, p => ⟨Nat.le_refl _, Nat.le_refl _⟩
  | f + 1, p => by
    show p ≤ (if t p = 32 then skF t n f (p + 1) else p) ∧ (if t p = 32 then skF t n f (p + 1) else p) ≤ _
    have := skF_in t n f (p + 1)
    split <;> omega
theorem sk_in {t : Nat → Int32} {n p : Nat} (h : p ≤ n) : p ≤ skS t n p ∧ skS t n p ≤ n := by
  have := skF_in t n (n - p) p
  unfold skS
  omega
theorem run_go {t : Nat → Int32} {n c p : Nat} (h0 : c ≠ 0) (h : clS t n p = c) : runS t n c p = runS t n c (p + 1) := by
  have hp : p < n := by
    rcases Nat.lt_or_ge p n with q | q
    · exact q
    · exact absurd (h.symm.trans (cl_0.mpr q)) h0
  unfold runS
  rw [show n - p = (n - (p + 1)) + 1 by omega]
  show (if clS t n p = c then rnF t n c (n - (p + 1)) (p + 1) else p) = _
  rw [if_pos h]
theorem run_stop {t : Nat → Int32} {n c p : Nat} (h : ¬ clS t n p = c) : runS t n c p = p := by
  unfold runS
  cases n - p with
  | zero => rfl
  | succ f =>
    show (if clS t n p = c then rnF t n c f (p + 1) else p) = _
    rw [if_neg h]
theorem rnF_in (t : Nat → Int32) (n c : Nat) : ∀ f p, p ≤ rnF t n c f p ∧ rnF t n c f p ≤ p + f ∧ ∀ j, p ≤ j → j < rnF t n c f p → clS t n j = c
  | 0, p => ⟨Nat.le_refl _, Nat.le_refl _, fun j h1 h2 => by have : j < p := h2; omega⟩
  | f + 1, p => by
    show p ≤ (if clS t n p = c then rnF t n c f (p + 1) else p) ∧ (if clS t n p = c then rnF t n c f (p + 1) else p) ≤ _ ∧ ∀ j, p ≤ j → j < (if clS t n p = c then rnF t n c f (p + 1) else p) → _
    obtain ⟨h1, h2, h3⟩ := rnF_in t n c f (p + 1)
    by_cases h : clS t n p = c
    · rw [if_pos h]
      refine ⟨by omega, by omega, fun j hj hj2 => ?_⟩
      by_cases e : j = p
      · rw [e]; exact h
      · exact h3 j (by omega) hj2
    · rw [if_neg h]
      exact ⟨Nat.le_refl _, by omega, fun j hj hj2 => by omega⟩
theorem run_in {t : Nat → Int32} {n c p : Nat} (h : p ≤ n) : p ≤ runS t n c p ∧ runS t n c p ≤ n ∧ ∀ j, p ≤ j → j < runS t n c p → clS t n j = c := by
  obtain ⟨h1, h2, h3⟩ := rnF_in t n c (n - p) p
  exact ⟨h1, by unfold runS; omega, h3⟩
abbrev Tk : Type := Nat × Nat × Nat
def enS (t : Nat → Int32) (n b : Nat) : Nat := if clS t n b = 0 then b else if clS t n b = 3 then b + 1 else runS t n (clS t n b) b
def kiS (t : Nat → Int32) (n e k b : Nat) : Nat := if clS t n b = 0 ∨ clS t n b = 3 then clS t n b else if (k = 1 ∨ k = 2) ∧ b = e then 4 else if clS t n b = 2 ∧ 4 < enS t n b - b then 4 else clS t n b
def nxS (t : Nat → Int32) (n : Nat) (q : Tk) : Tk := (skS t n q.2.1, enS t n (skS t n q.2.1), kiS t n q.2.1 q.2.2 (skS t n q.2.1))
def QI (t : Nat → Int32) (n : Nat) (q : Tk) : Prop := q.1 ≤ q.2.1 ∧ q.2.1 ≤ n ∧ q.2.2 ≤ 4 ∧ (q.2.2 ≠ 0 → q.1 < q.2.1) ∧ (q.2.2 = 3 → q.2.1 = q.1 + 1) ∧ (q.2.2 = 2 → q.2.1 - q.1 ≤ 4 ∧ ∀ j, q.1 ≤ j → j < q.2.1 → clS t n j = 2) ∧ (q.2.2 = 1 → ∀ j, q.1 ≤ j → j < q.2.1 → clS t n j = 1)
theorem en_in {t : Nat → Int32} {n b : Nat} (h : b ≤ n) : b ≤ enS t n b ∧ enS t n b ≤ n ∧ (clS t n b ≠ 0 → b < enS t n b) ∧ (clS t n b = 3 → enS t n b = b + 1) ∧ (clS t n b = 1 ∨ clS t n b = 2 → ∀ j, b ≤ j → j < enS t n b → clS t n j = clS t n b) := by
  unfold enS
  by_cases h0 : clS t n b = 0
  · rw [if_pos h0]
    exact ⟨Nat.le_refl _, h, fun q => absurd h0 q, fun q => by omega, fun q => by omega⟩
  · have hb : b < n := by
      rcases Nat.lt_or_ge b n with q | q
      · exact q
      · exact absurd (cl_0.mpr q) h0
    rw [if_neg h0]
    by_cases h3 : clS t n b = 3
    · rw [if_pos h3]
      exact ⟨by omega, by omega, fun _ => by omega, fun _ => rfl, fun q => by omega⟩
    · rw [if_neg h3]
      obtain ⟨r1, r2, r3⟩ := run_in (t := t) (c := clS t n b) (show b + 1 ≤ n by omega)
      rw [run_go h0 rfl]
      refine ⟨by omega, r2, fun _ => by omega, fun q => absurd q h3, fun _ j hj hj2 => ?_⟩
      by_cases e : j = b
      · rw [e]
      · exact r3 j (by omega) hj2
theorem nx_QI {t : Nat → Int32} {n : Nat} {q : Tk} (h : q.2.1 ≤ n) : QI t n (nxS t n q) ∧ q.2.1 ≤ (nxS t n q).1 := by
  obtain ⟨s1, s2⟩ := sk_in (t := t) h
  obtain ⟨e1, e2, e3, e4, e5⟩ := en_in (t := t) s2
  have hc := cl_le t n (skS t n q.2.1)
  refine ⟨⟨e1, e2, ?_, ?_, ?_, ?_, ?_⟩, s1⟩
  · show kiS _ _ _ _ _ ≤ 4
    unfold kiS
    split
    · omega
    · split
      · omega
      · split <;> omega
  · intro hk
    refine e3 (fun h0 => hk ?_)
    show kiS _ _ _ _ _ = 0
    unfold kiS
    rw [if_pos (Or.inl h0)]; exact h0
  · intro hk
    refine e4 ?_
    replace hk : kiS t n q.2.1 q.2.2 (skS t n q.2.1) = 3 := hk
    unfold kiS at hk
    split at hk
    · exact hk
    · split at hk
      · omega
      · split at hk <;> omega
  · intro hk
    replace hk : kiS t n q.2.1 q.2.2 (skS t n q.2.1) = 2 := hk
    unfold kiS at hk
    split at hk
    · omega
    · split at hk
      · omega
      · split at hk
        · omega
        · next _ _ h3 =>
          refine ⟨?_, fun j hj hj2 => (e5 (Or.inr hk) j hj hj2).trans hk⟩
          show enS t n (skS t n q.2.1) - skS t n q.2.1 ≤ 4
          omega
  · intro hk
    replace hk : kiS t n q.2.1 q.2.2 (skS t n q.2.1) = 1 := hk
    unfold kiS at hk
    split at hk
    · omega
    · split at hk
      · omega
      · split at hk
        · omega
        · exact fun j hj hj2 => (e5 (Or.inl hk) j hj hj2).trans hk
def nvS (t : Nat → Int32) (b : Nat) : Nat → Int32
  | 0 => 0
  | j + 1 => 10 * nvS t b j + t (b + j) - 48
theorem nv_is {t : Nat → Int32} {b n : Nat} : ∀ m, m ≤ 4 → (∀ j, j < m → clS t n (b + j) = 2) → ∃ x, x < 10 ^ m ∧ nvS t b m = nI x
  | 0, _, _ => ⟨0, by decide, rfl⟩
  | m + 1, hm, h => by
    obtain ⟨x, hx, e⟩ := nv_is m (by omega) (fun j hj => h j (by omega))
    obtain ⟨-, h1, h2⟩ := cl_2.mp (h m (by omega))
    have hp : 10 ^ m ≤ 1000 := Nat.le_trans (Nat.pow_le_pow_right (by decide) (show m ≤ 3 by omega)) (by decide)
    have hp2 : 10 ^ (m + 1) = 10 * 10 ^ m := by rw [Nat.pow_succ, Nat.mul_comm]
    obtain ⟨y, hy, ey⟩ := Rg.ex (n := 58) (v := t (b + m)) (by
      simp only [tle, show (48 : Int32).toInt = 48 from rfl, show (57 : Int32).toInt = 57 from rfl] at h1 h2
      exact ⟨by omega, by omega⟩)
    have hy2 : 48 ≤ y := by
      rw [ey, show (48 : Int32) = nI 48 from rfl, le_nI (by omega) (by omega)] at h1
      exact h1
    refine ⟨10 * x + (y - 48), by omega, ?_⟩
    show 10 * nvS t b m + t (b + m) - 48 = _
    rw [e, ey, show (10 : Int32) = nI 10 from rfl, pk_mul, nI_add, teq, show (48 : Int32) = nI 48 from rfl, pk_sub_toInt (by omega) (by omega), tnI (by omega)]
    omega
-- a text's rows
abbrev PSt : Type := Tk × Nat × (Nat → Int32) × (Nat → Int32) × Nat
def ptS (w v : Int32) (σ : PSt) : PSt := (σ.1, σ.2.1 + 1, upd σ.2.2.1 σ.2.1 w, upd σ.2.2.2.1 σ.2.1 v, σ.2.2.2.2)
def avS (t : Nat → Int32) (n : Nat) (σ : PSt) : PSt := (nxS t n σ.1, σ.2)
def sdS (σ : PSt) : PSt := (σ.1, σ.2.1, σ.2.2.1, σ.2.2.2.1, σ.2.2.2.2 + 1)
def jnB (r : Nat) (c : Int32) : Bool := if r = 0 then decide (c = 124) else if r = 1 then decide (c = 38) else if r = 2 then decide (c = 60) || decide (c = 61) || decide (c = 62) else if r = 3 then decide (c = 43) || decide (c = 45) else if r = 4 then decide (c = 42) || decide (c = 47) else false
def nmB (key c : Int32) : Bool := if key = 0 then decide (c = 119) || decide (c = 97) || decide (c = 111) else if key = 1 then decide (c = 107) || decide (c = 105) else if key = 2 then decide (c = 115) || decide (c = 112) else false
theorem nmB_ok {key c : Int32} (h : nmB key c = true) : nmOk key c := by
  unfold nmB at h
  unfold nmOk
  split at h
  · simp at h; next k => exact Or.inl ⟨k, by rcases h with (q | q) | q <;> simp [q]⟩
  · split at h
    · simp at h; next k => exact Or.inr (Or.inl ⟨k, h⟩)
    · split at h
      · simp at h; next k => exact Or.inr (Or.inr ⟨k, h⟩)
      · cases h
abbrev PF : Type := Nat → Nat → Nat → PSt → Bool × PSt
def PL (g : PF) (r pa no : Nat) (σ : PSt) : Bool × PSt := if (g (r + 1) pa no σ).1 = true then g (r + 6) pa no (g (r + 1) pa no σ).2 else (false, (g (r + 1) pa no σ).2)
def PP (g : PF) (t : Nat → Int32) (n : Nat) (key : Int32) (pa no : Nat) (σ : PSt) : Bool × PSt :=
  if σ.1.2.2 = 2 then (true, avS t n (sdS (ptS 0 (nvS t σ.1.1 (σ.1.2.1 - σ.1.1)) σ)))
  else if σ.1.2.2 = 1 ∧ σ.1.2.1 - σ.1.1 = 1 ∧ nmB key (t σ.1.1) = true then (true, avS t n (sdS (ptS 1 (t σ.1.1) σ)))
  else if σ.1.2.2 = 3 ∧ t σ.1.1 = 33 ∧ no < 8 then (if (g 5 pa (no + 1) (avS t n σ)).1 = true then (true, ptS 2 33 (g 5 pa (no + 1) (avS t n σ)).2) else (false, (g 5 pa (no + 1) (avS t n σ)).2))
  else if σ.1.2.2 = 3 ∧ t σ.1.1 = 40 ∧ pa < 8 then (if (g 0 (pa + 1) no (avS t n σ)).1 = true ∧ (g 0 (pa + 1) no (avS t n σ)).2.1.2.2 = 3 ∧ t (g 0 (pa + 1) no (avS t n σ)).2.1.1 = 41 then (true, avS t n (g 0 (pa + 1) no (avS t n σ)).2) else (false, (g 0 (pa + 1) no (avS t n σ)).2))
  else (false, σ)
def PO (g : PF) (t : Nat → Int32) (n : Nat) (r pa no : Nat) (σ : PSt) : Bool × PSt :=
  if σ.1.2.2 = 3 ∧ jnB r (t σ.1.1) = true then
    (if (g (r + 1) pa no (avS t n σ)).1 = true then (if r = 2 then (true, ptS 2 (t σ.1.1) (g (r + 1) pa no (avS t n σ)).2) else g (r + 6) pa no (ptS 2 (t σ.1.1) (g (r + 1) pa no (avS t n σ)).2)) else (false, (g (r + 1) pa no (avS t n σ)).2))
  else (true, σ)
def PR (t : Nat → Int32) (n : Nat) (key : Int32) : Nat → PF
  | 0 => fun _ _ _ σ => (false, σ)
  | f + 1 => fun md pa no σ => if md < 5 then PL (PR t n key f) md pa no σ else if md = 5 then PP (PR t n key f) t n key pa no σ else PO (PR t n key f) t n (md - 6) pa no σ
theorem pr_L {t : Nat → Int32} {n : Nat} {key : Int32} {f r pa no : Nat} {σ : PSt} (h : r < 5) : PR t n key (f + 1) r pa no σ = PL (PR t n key f) r pa no σ := if_pos h
theorem pr_P {t : Nat → Int32} {n : Nat} {key : Int32} {f pa no : Nat} {σ : PSt} : PR t n key (f + 1) 5 pa no σ = PP (PR t n key f) t n key pa no σ := rfl
theorem pr_O {t : Nat → Int32} {n : Nat} {key : Int32} {f r pa no : Nat} {σ : PSt} : PR t n key (f + 1) (r + 6) pa no σ = PO (PR t n key f) t n r pa no σ := by
  show (if r + 6 < 5 then PL (PR t n key f) (r + 6) pa no σ else if r + 6 = 5 then PP (PR t n key f) t n key pa no σ else PO (PR t n key f) t n (r + 6 - 6) pa no σ) = _
  rw [if_neg (by omega), if_neg (by omega), Nat.add_sub_cancel]
-- heights
def gH (w v : Nat → Int32) : Nat → Nat
  | 0 => 0
  | i + 1 => if w i = 2 then (if v i = 33 then gH w v i else gH w v i - 1) else gH w v i + 1
theorem gH_s (w v : Nat → Int32) (i : Nat) : gH w v (i + 1) = if w i = 2 then (if v i = 33 then gH w v i else gH w v i - 1) else gH w v i + 1 := rfl
theorem gH_cong {w v w' v' : Nat → Int32} : ∀ m, (∀ i, i < m → w' i = w i ∧ v' i = v i) → gH w' v' m = gH w v m
  | 0, _ => rfl
  | m + 1, h => by rw [gH_s, gH_s, (h m (by omega)).1, (h m (by omega)).2, gH_cong m (fun i hi => h i (by omega))]
def rwOk (key : Int32) (w v : Nat → Int32) (i : Nat) : Prop := (w i = 0 ∧ ∃ x, x < 10000 ∧ v i = nI x) ∨ (w i = 1 ∧ nmOk key (v i)) ∨ (w i = 2 ∧ ((v i = 33 ∧ 1 ≤ gH w v i) ∨ ((v i = 124 ∨ v i = 38 ∨ v i = 60 ∨ v i = 61 ∨ v i = 62 ∨ v i = 43 ∨ v i = 45 ∨ v i = 42 ∨ v i = 47) ∧ 2 ≤ gH w v i)))
def WF (key : Int32) (σ : PSt) (h : Nat) : Prop := (∀ i, i < σ.2.1 → rwOk key σ.2.2.1 σ.2.2.2.1 i) ∧ gH σ.2.2.1 σ.2.2.2.1 σ.2.1 = h
theorem WF.pt {key : Int32} {σ : PSt} {h : Nat} {w v : Int32} (g : WF key σ h) (hc : (w = 0 ∧ ∃ x, x < 10000 ∧ v = nI x) ∨ (w = 1 ∧ nmOk key v) ∨ (w = 2 ∧ ((v = 33 ∧ 1 ≤ h) ∨ ((v = 124 ∨ v = 38 ∨ v = 60 ∨ v = 61 ∨ v = 62 ∨ v = 43 ∨ v = 45 ∨ v = 42 ∨ v = 47) ∧ 2 ≤ h)))) : WF key (ptS w v σ) (if w = 2 then (if v = 33 then h else h - 1) else h + 1) := by
  obtain ⟨g1, g2⟩ := g
  have un : ∀ i, i < σ.2.1 → upd σ.2.2.1 σ.2.1 w i = σ.2.2.1 i ∧ upd σ.2.2.2.1 σ.2.1 v i = σ.2.2.2.1 i := fun i hi => ⟨pk_un (by omega), pk_un (by omega)⟩
  have hh : ∀ i, i ≤ σ.2.1 → gH (upd σ.2.2.1 σ.2.1 w) (upd σ.2.2.2.1 σ.2.1 v) i = gH σ.2.2.1 σ.2.2.2.1 i := fun i hi => gH_cong i (fun j hj => un j (by omega))
  refine ⟨fun i hi => ?_, ?_⟩
  · show rwOk key (upd σ.2.2.1 σ.2.1 w) (upd σ.2.2.2.1 σ.2.1 v) i
    replace hi : i < σ.2.1 + 1 := hi
    unfold rwOk
    by_cases e : i = σ.2.1
    · rw [e, hh _ (Nat.le_refl _), pk_us, pk_us, g2]
      exact hc
    · rw [hh i (by omega), (un i (by omega)).1, (un i (by omega)).2]
      exact g1 i (by omega)
  · show gH (upd σ.2.2.1 σ.2.1 w) (upd σ.2.2.2.1 σ.2.1 v) (σ.2.1 + 1) = _
    rw [gH_s, hh _ (Nat.le_refl _), pk_us, pk_us, g2]
theorem jnB_op {r : Nat} {c : Int32} (h : jnB r c = true) : (c = 124 ∨ c = 38 ∨ c = 60 ∨ c = 61 ∨ c = 62 ∨ c = 43 ∨ c = 45 ∨ c = 42 ∨ c = 47) ∧ ¬ c = 33 := by
  have key : (c = 124 ∨ c = 38 ∨ c = 60 ∨ c = 61 ∨ c = 62 ∨ c = 43 ∨ c = 45 ∨ c = 42 ∨ c = 47) := by
    unfold jnB at h
    split at h
    · simp at h; simp [h]
    · split at h
      · simp at h; simp [h]
      · split at h
        · simp at h; rcases h with (q | q) | q <;> simp [q]
        · split at h
          · simp at h; rcases h with q | q <;> simp [q]
          · split at h
            · simp at h; rcases h with q | q <;> simp [q]
            · cases h
  exact ⟨key, fun e => by rw [e] at key; exact absurd key (by decide)⟩
/-- what a reading gives: where it stands, how many rows it has, and that the rows are those of a text -/
def PG (t : Nat → Int32) (n : Nat) (key : Int32) (md : Nat) (σ : PSt) (r : Bool × PSt) : Prop := QI t n r.2.1 ∧ σ.1.1 ≤ r.2.1.1 ∧ r.2.2.1 + σ.1.1 ≤ σ.2.1 + r.2.1.1 ∧ (r.1 = true → md ≤ 5 → σ.1.1 < r.2.1.1) ∧ ∀ h, WF key σ h → (6 ≤ md → 1 ≤ h) → r.1 = true → WF key r.2 (if md ≤ 5 then h + 1 else h)
theorem ad_b {t : Nat → Int32} {n : Nat} {σ : PSt} (hQ : QI t n σ.1) (hk : σ.1.2.2 ≠ 0) : QI t n (avS t n σ).1 ∧ σ.1.1 + 1 ≤ (avS t n σ).1.1 := by
  obtain ⟨g1, g2⟩ := nx_QI (t := t) hQ.2.1
  have := hQ.2.2.2.1 hk
  exact ⟨g1, by show _ ≤ (nxS t n σ.1).1; omega⟩
theorem pr_G (t : Nat → Int32) (n : Nat) (key : Int32) : ∀ f md pa no σ, QI t n σ.1 → PG t n key md σ (PR t n key f md pa no σ)
  | 0, md, pa, no, σ, hQ => ⟨hQ, Nat.le_refl _, Nat.le_refl _, fun h => (by cases h), fun h _ _ h2 => (by cases h2)⟩
  | f + 1, md, pa, no, σ, hQ => by
    have ih := pr_G t n key f
    show PG t n key md σ (if md < 5 then PL (PR t n key f) md pa no σ else if md = 5 then PP (PR t n key f) t n key pa no σ else PO (PR t n key f) t n (md - 6) pa no σ)
    by_cases h5 : md < 5
    · rw [if_pos h5]
      unfold PL
      obtain ⟨a1, a2, a3, a4, a5⟩ := ih (md + 1) pa no σ hQ
      by_cases ok : (PR t n key f (md + 1) pa no σ).1 = true
      · rw [if_pos ok]
        obtain ⟨b1, b2, b3, b4, b5⟩ := ih (md + 6) pa no _ a1
        have a4 := a4 ok (by omega)
        refine ⟨b1, by omega, by omega, fun _ _ => by omega, fun h hw _ hr => ?_⟩
        have hw1 := a5 h hw (fun q => by omega) ok
        rw [if_pos (by omega)] at hw1
        have hw2 := b5 (h + 1) hw1 (fun _ => by omega) hr
        rw [if_neg (by omega)] at hw2
        rw [if_pos (by omega)]
        exact hw2
      · rw [if_neg ok]
        exact ⟨a1, a2, a3, fun h => (by cases h), fun h _ _ h2 => (by cases h2)⟩
    · rw [if_neg h5]
      by_cases e5 : md = 5
      · rw [if_pos e5]
        subst e5
        unfold PP
        by_cases c2 : σ.1.2.2 = 2
        · rw [if_pos c2]
          obtain ⟨g1, g2⟩ := ad_b hQ (show σ.1.2.2 ≠ 0 by omega)
          refine ⟨g1, ?_, ?_, fun _ _ => g2, fun h hw _ _ => ?_⟩
          · show σ.1.1 ≤ (avS t n σ).1.1; omega
          · show σ.2.1 + 1 + σ.1.1 ≤ σ.2.1 + (avS t n σ).1.1
            omega
          · rw [if_pos (by omega)]
            obtain ⟨q1, q2⟩ := hQ.2.2.2.2.2.1 c2
            obtain ⟨x, hx, ex⟩ := nv_is (t := t) (b := σ.1.1) (n := n) (σ.1.2.1 - σ.1.1) q1 (fun j hj => q2 _ (by omega) (by omega))
            have hx2 : x < 10000 := Nat.lt_of_lt_of_le hx (Nat.le_trans (Nat.pow_le_pow_right (by decide) q1) (by decide))
            have := hw.pt (w := 0) (v := nvS t σ.1.1 (σ.1.2.1 - σ.1.1)) (Or.inl ⟨rfl, x, hx2, ex⟩)
            rw [if_neg (by decide)] at this
            exact this
        · rw [if_neg c2]
          by_cases c1 : σ.1.2.2 = 1 ∧ σ.1.2.1 - σ.1.1 = 1 ∧ nmB key (t σ.1.1) = true
          · rw [if_pos c1]
            obtain ⟨g1, g2⟩ := ad_b hQ (show σ.1.2.2 ≠ 0 by omega)
            refine ⟨g1, ?_, ?_, fun _ _ => g2, fun h hw _ _ => ?_⟩
            · show σ.1.1 ≤ (avS t n σ).1.1; omega
            · show σ.2.1 + 1 + σ.1.1 ≤ σ.2.1 + (avS t n σ).1.1
              omega
            · rw [if_pos (by omega)]
              have := hw.pt (w := 1) (v := t σ.1.1) (Or.inr (Or.inl ⟨rfl, nmB_ok c1.2.2⟩))
              rw [if_neg (by decide)] at this
              exact this
          · rw [if_neg c1]
            by_cases c3 : σ.1.2.2 = 3 ∧ t σ.1.1 = 33 ∧ no < 8
            · rw [if_pos c3]
              obtain ⟨g1, g2⟩ := ad_b hQ (by omega)
              obtain ⟨a1, a2, a3, a4, a5⟩ := ih 5 pa (no + 1) _ g1
              have a3' : (PR t n key f 5 pa (no + 1) (avS t n σ)).2.2.1 + (avS t n σ).1.1 ≤ σ.2.1 + (PR t n key f 5 pa (no + 1) (avS t n σ)).2.1.1 := a3
              by_cases ok : (PR t n key f 5 pa (no + 1) (avS t n σ)).1 = true
              · rw [if_pos ok]
                have a4 := a4 ok (by omega)
                refine ⟨a1, ?_, ?_, fun _ _ => ?_, fun h hw _ _ => ?_⟩
                · show σ.1.1 ≤ (PR t n key f 5 pa (no + 1) (avS t n σ)).2.1.1
                  omega
                · show (PR t n key f 5 pa (no + 1) (avS t n σ)).2.2.1 + 1 + σ.1.1 ≤ σ.2.1 + (PR t n key f 5 pa (no + 1) (avS t n σ)).2.1.1
                  omega
                · show σ.1.1 < (PR t n key f 5 pa (no + 1) (avS t n σ)).2.1.1
                  omega
                · have hw1 := a5 h hw (fun q => by omega) ok
                  rw [if_pos (by omega)] at hw1
                  have hw2 := hw1.pt (w := 2) (v := 33) (Or.inr (Or.inr ⟨rfl, Or.inl ⟨rfl, by omega⟩⟩))
                  rw [if_pos rfl, if_pos rfl] at hw2
                  rw [if_pos (by omega)]
                  exact hw2
              · rw [if_neg ok]
                exact ⟨a1, (show σ.1.1 ≤ (PR t n key f 5 pa (no + 1) (avS t n σ)).2.1.1 by omega), (show (PR t n key f 5 pa (no + 1) (avS t n σ)).2.2.1 + σ.1.1 ≤ σ.2.1 + (PR t n key f 5 pa (no + 1) (avS t n σ)).2.1.1 by omega), fun h => (by cases h), fun h _ _ h2 => (by cases h2)⟩
            · rw [if_neg c3]
              by_cases c4 : σ.1.2.2 = 3 ∧ t σ.1.1 = 40 ∧ pa < 8
              · rw [if_pos c4]
                obtain ⟨g1, g2⟩ := ad_b hQ (by omega)
                obtain ⟨a1, a2, a3, a4, a5⟩ := ih 0 (pa + 1) no _ g1
                have a3' : (PR t n key f 0 (pa + 1) no (avS t n σ)).2.2.1 + (avS t n σ).1.1 ≤ σ.2.1 + (PR t n key f 0 (pa + 1) no (avS t n σ)).2.1.1 := a3
                by_cases ok : (PR t n key f 0 (pa + 1) no (avS t n σ)).1 = true ∧ (PR t n key f 0 (pa + 1) no (avS t n σ)).2.1.2.2 = 3 ∧ t (PR t n key f 0 (pa + 1) no (avS t n σ)).2.1.1 = 41
                · rw [if_pos ok]
                  have a4 := a4 ok.1 (by omega)
                  obtain ⟨k1, k2⟩ := ad_b a1 (by omega)
                  refine ⟨k1, ?_, ?_, fun _ _ => ?_, fun h hw _ _ => ?_⟩
                  · show σ.1.1 ≤ (avS t n (PR t n key f 0 (pa + 1) no (avS t n σ)).2).1.1
                    omega
                  · show (PR t n key f 0 (pa + 1) no (avS t n σ)).2.2.1 + σ.1.1 ≤ σ.2.1 + (avS t n (PR t n key f 0 (pa + 1) no (avS t n σ)).2).1.1
                    omega
                  · show σ.1.1 < (avS t n (PR t n key f 0 (pa + 1) no (avS t n σ)).2).1.1
                    omega
                  · have hw1 := a5 h hw (fun q => by omega) ok.1
                    exact hw1
                · rw [if_neg ok]
                  exact ⟨a1, (show σ.1.1 ≤ (PR t n key f 0 (pa + 1) no (avS t n σ)).2.1.1 by omega), (show (PR t n key f 0 (pa + 1) no (avS t n σ)).2.2.1 + σ.1.1 ≤ σ.2.1 + (PR t n key f 0 (pa + 1) no (avS t n σ)).2.1.1 by omega), fun h => (by cases h), fun h _ _ h2 => (by cases h2)⟩
              · rw [if_neg c4]
                exact ⟨hQ, Nat.le_refl _, Nat.le_refl _, fun h => (by cases h), fun h _ _ h2 => (by cases h2)⟩
      · rw [if_neg e5]
        unfold PO
        have e66 : md - 6 + 6 = md := by omega
        rw [e66]
        by_cases c : σ.1.2.2 = 3 ∧ jnB (md - 6) (t σ.1.1) = true
        · rw [if_pos c]
          have hj : md - 6 ≤ 4 := by
            rcases Nat.lt_or_ge 4 (md - 6) with q | q
            · have := c.2
              unfold jnB at this
              rw [if_neg (by omega), if_neg (by omega), if_neg (by omega), if_neg (by omega), if_neg (by omega)] at this
              cases this
            · exact q
          obtain ⟨g1, g2⟩ := ad_b hQ (by omega)
          obtain ⟨a1, a2, a3, a4, a5⟩ := ih (md - 6 + 1) pa no _ g1
          have a3' : (PR t n key f (md - 6 + 1) pa no (avS t n σ)).2.2.1 + (avS t n σ).1.1 ≤ σ.2.1 + (PR t n key f (md - 6 + 1) pa no (avS t n σ)).2.1.1 := a3
          by_cases ok : (PR t n key f (md - 6 + 1) pa no (avS t n σ)).1 = true
          · rw [if_pos ok]
            have a4 := a4 ok (by omega)
            have hwp : ∀ h, WF key σ h → 1 ≤ h → WF key (ptS 2 (t σ.1.1) (PR t n key f (md - 6 + 1) pa no (avS t n σ)).2) h := fun h hw h1 => by
              have hw1 := a5 h hw (fun q => by omega) ok
              rw [if_pos (by omega)] at hw1
              obtain ⟨o1, o2⟩ := jnB_op c.2
              have hw2 := hw1.pt (w := 2) (v := t σ.1.1) (Or.inr (Or.inr ⟨rfl, Or.inr ⟨o1, by omega⟩⟩))
              rw [if_pos rfl, if_neg o2, Nat.add_sub_cancel] at hw2
              exact hw2
            by_cases r2 : md - 6 = 2
            · rw [if_pos r2]
              refine ⟨a1, ?_, ?_, fun _ q => by omega, fun h hw h1 _ => ?_⟩
              · show σ.1.1 ≤ (PR t n key f (md - 6 + 1) pa no (avS t n σ)).2.1.1
                omega
              · show (PR t n key f (md - 6 + 1) pa no (avS t n σ)).2.2.1 + 1 + σ.1.1 ≤ σ.2.1 + (PR t n key f (md - 6 + 1) pa no (avS t n σ)).2.1.1
                omega
              · rw [if_neg (by omega)]
                exact hwp h hw (h1 (by omega))
            · rw [if_neg r2]
              obtain ⟨b1, b2, b3, b4, b5⟩ := ih md pa no (ptS 2 (t σ.1.1) (PR t n key f (md - 6 + 1) pa no (avS t n σ)).2) a1
              have b2' : (PR t n key f (md - 6 + 1) pa no (avS t n σ)).2.1.1 ≤ (PR t n key f md pa no (ptS 2 (t σ.1.1) (PR t n key f (md - 6 + 1) pa no (avS t n σ)).2)).2.1.1 := b2
              have b3' : (PR t n key f md pa no (ptS 2 (t σ.1.1) (PR t n key f (md - 6 + 1) pa no (avS t n σ)).2)).2.2.1 + (PR t n key f (md - 6 + 1) pa no (avS t n σ)).2.1.1 ≤ (PR t n key f (md - 6 + 1) pa no (avS t n σ)).2.2.1 + 1 + (PR t n key f md pa no (ptS 2 (t σ.1.1) (PR t n key f (md - 6 + 1) pa no (avS t n σ)).2)).2.1.1 := b3
              refine ⟨b1, by omega, by omega, fun _ q => by omega, fun h hw h1 hr => ?_⟩
              exact b5 h (hwp h hw (h1 (by omega))) h1 hr
          · rw [if_neg ok]
            exact ⟨a1, (show σ.1.1 ≤ (PR t n key f (md - 6 + 1) pa no (avS t n σ)).2.1.1 by omega), (show (PR t n key f (md - 6 + 1) pa no (avS t n σ)).2.2.1 + σ.1.1 ≤ σ.2.1 + (PR t n key f (md - 6 + 1) pa no (avS t n σ)).2.1.1 by omega), fun h => (by cases h), fun h _ _ h2 => (by cases h2)⟩
        · rw [if_neg c]
          refine ⟨hQ, Nat.le_refl _, Nat.le_refl _, fun _ q => by omega, fun h hw _ _ => ?_⟩
          rw [if_neg (by omega)]
          exact hw
