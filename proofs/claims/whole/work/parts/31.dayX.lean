-- what holds of a row, and is kept by a day
def Inv (s : Nat → Int32) : Prop := PI s ∧ WI s ∧ TI s ∧ (∀ k, k < np s → (∃ a, a < 6 ∧ kd s k = nI a) ∧ (∃ a, a < 10 ∧ pl s k = nI a) ∧ (∃ a, a < 100 ∧ ag s k = nI a) ∧ ∀ j, bt (sk s k) j = true → j < nw s) ∧ ∀ w, w < nw s → (∃ a, a < 10 ∧ fr s w = nI a) ∧ (∃ a, a < 10 ∧ tt s w = nI a) ∧ (sd s w = 0 ∨ sd s w = 1)
theorem inv_of {s s' : Nat → Int32} (h : Inv s) (hk : Keep s s') (h2 : ∀ k, k < np s → (∃ a, a < 10 ∧ pl s' k = nI a) ∧ (∃ a, a < 100 ∧ ag s' k = nI a) ∧ ∀ j, bt (sk s' k) j = true → j < nw s) (h3 : ∀ w, w < nw s → (sd s' w = 0 ∨ sd s' w = 1)) : Inv s' := by
  obtain ⟨i1, i2, i3, i4, i5⟩ := h
  have h8 := i1.2
  have h14 := i2.2
  have e1 := hk.gnp
  have e2 := hk.gnw
  refine ⟨hk.gpi i1, hk.gwi i2, hk.gti i3, fun k hk2 => ?_, fun w hw => ?_⟩
  · rw [e1] at hk2
    rw [e2]
    obtain ⟨a1, a2, a3⟩ := h2 k hk2
    refine ⟨?_, a1, a2, a3⟩
    rw [hk.2.2.2.2.2.2.2 k (by omega)]
    exact (i4 k hk2).1
  · rw [e2] at hw
    have hkf := hk.2.2.2.2.2.2.1 w (by omega)
    rw [hkf.1, hkf.2]
    exact ⟨(i5 w hw).1, (i5 w hw).2.1, h3 w hw⟩
theorem inv_sc {s : Nat → Int32} (h : Inv s) {j : Nat} (v : Int32) (hj : j = 2 ∨ j = 6 ∨ j = 7 ∨ j = 8 ∨ j = 9) : Inv (upd s j v) := by
  refine inv_of h (Keep.up _ (by omega)) (fun k hk => ?_) (fun w hw => ?_)
  · have e1 : pl (upd s j v) k = pl s k := pk_un (by omega)
    have e2 : ag (upd s j v) k = ag s k := pk_un (by omega)
    have e3 : sk (upd s j v) k = sk s k := pk_un (by omega)
    rw [e1, e2, e3]
    exact (h.2.2.2.1 k hk).2
  · have e1 : sd (upd s j v) w = sd s w := pk_un (by omega)
    rw [e1]
    exact (h.2.2.2.2 w hw).2.2
theorem inv_pl {s : Nat → Int32} (h : Inv s) {i : Nat} (hi : i < 8) {v : Int32} (hv : ∃ a, a < 10 ∧ v = nI a) : Inv (upd s (11 + 4 * i) v) := by
  have h14 := h.2.1.2
  refine inv_of h (Keep.up _ (Or.inr (Or.inr (Or.inr (Or.inr (Or.inr (Or.inl ⟨i, hi, Or.inl rfl⟩))))))) (fun k hk => ?_) (fun w hw => ?_)
  · have e2 : ag (upd s (11 + 4 * i) v) k = ag s k := pk_un (by omega)
    have e3 : sk (upd s (11 + 4 * i) v) k = sk s k := pk_un (by omega)
    rw [e2, e3]
    refine ⟨?_, (h.2.2.2.1 k hk).2.2⟩
    by_cases e : k = i
    · subst e
      have e1 : pl (upd s (11 + 4 * k) v) k = v := pk_us
      rw [e1]; exact hv
    · have e1 : pl (upd s (11 + 4 * i) v) k = pl s k := pk_un (by omega)
      rw [e1]; exact (h.2.2.2.1 k hk).2.1
  · have e1 : sd (upd s (11 + 4 * i) v) w = sd s w := pk_un (by have := h.1.2; omega)
    rw [e1]
    exact (h.2.2.2.2 w hw).2.2
theorem inv_ag {s : Nat → Int32} (h : Inv s) {i : Nat} (hi : i < 8) {v : Int32} (hv : ∃ a, a < 100 ∧ v = nI a) : Inv (upd s (12 + 4 * i) v) := by
  have h14 := h.2.1.2
  refine inv_of h (Keep.up _ (Or.inr (Or.inr (Or.inr (Or.inr (Or.inr (Or.inl ⟨i, hi, Or.inr (Or.inl rfl)⟩))))))) (fun k hk => ?_) (fun w hw => ?_)
  · have e2 : pl (upd s (12 + 4 * i) v) k = pl s k := pk_un (by omega)
    have e3 : sk (upd s (12 + 4 * i) v) k = sk s k := pk_un (by omega)
    rw [e2, e3]
    refine ⟨(h.2.2.2.1 k hk).2.1, ?_, (h.2.2.2.1 k hk).2.2.2⟩
    by_cases e : k = i
    · subst e
      have e1 : ag (upd s (12 + 4 * k) v) k = v := pk_us
      rw [e1]; exact hv
    · have e1 : ag (upd s (12 + 4 * i) v) k = ag s k := pk_un (by omega)
      rw [e1]; exact (h.2.2.2.1 k hk).2.2.1
  · have e1 : sd (upd s (12 + 4 * i) v) w = sd s w := pk_un (by omega)
    rw [e1]
    exact (h.2.2.2.2 w hw).2.2
theorem inv_sk {s : Nat → Int32} (h : Inv s) {i : Nat} (hi : i < 8) {v : Int32} (hv : ∀ j, bt v j = true → j < nw s) : Inv (upd s (13 + 4 * i) v) := by
  have h14 := h.2.1.2
  refine inv_of h (Keep.up _ (Or.inr (Or.inr (Or.inr (Or.inr (Or.inr (Or.inl ⟨i, hi, Or.inr (Or.inr rfl)⟩))))))) (fun k hk => ?_) (fun w hw => ?_)
  · have e2 : pl (upd s (13 + 4 * i) v) k = pl s k := pk_un (by omega)
    have e3 : ag (upd s (13 + 4 * i) v) k = ag s k := pk_un (by omega)
    rw [e2, e3]
    refine ⟨(h.2.2.2.1 k hk).2.1, (h.2.2.2.1 k hk).2.2.1, ?_⟩
    by_cases e : k = i
    · subst e
      have e1 : sk (upd s (13 + 4 * k) v) k = v := pk_us
      rw [e1]; exact hv
    · have e1 : sk (upd s (13 + 4 * i) v) k = sk s k := pk_un (by omega)
      rw [e1]; exact (h.2.2.2.1 k hk).2.2.2
  · have e1 : sd (upd s (13 + 4 * i) v) w = sd s w := pk_un (by omega)
    rw [e1]
    exact (h.2.2.2.2 w hw).2.2
theorem inv_sd {s : Nat → Int32} (h : Inv s) {i : Nat} (hi : i < 14) {v : Int32} (hv : v = 0 ∨ v = 1) : Inv (upd s (44 + 3 * i) v) := by
  have h14 := h.2.1.2
  have h8 := h.1.2
  refine inv_of h (Keep.up _ (Or.inr (Or.inr (Or.inr (Or.inr (Or.inr (Or.inr ⟨i, hi, rfl⟩))))))) (fun k hk => ?_) (fun w hw => ?_)
  · have e1 : pl (upd s (44 + 3 * i) v) k = pl s k := pk_un (by omega)
    have e2 : ag (upd s (44 + 3 * i) v) k = ag s k := pk_un (by omega)
    have e3 : sk (upd s (44 + 3 * i) v) k = sk s k := pk_un (by omega)
    rw [e1, e2, e3]
    exact (h.2.2.2.1 k hk).2
  · by_cases e : w = i
    · subst e
      have e1 : sd (upd s (44 + 3 * w) v) w = v := pk_us
      rw [e1]; exact hv
    · have e1 : sd (upd s (44 + 3 * i) v) w = sd s w := pk_un (by omega)
      rw [e1]; exact (h.2.2.2.2 w hw).2.2
theorem inv_dr {s : Nat → Int32} (h : Inv s) : Inv (drS s) := inv_sc h _ (by omega)
theorem inv_wa {s : Nat → Int32} (h : Inv s) {k w : Nat} (hk : k < np s) (hw : w < nw s) : Inv (waS s k w) := by
  have h8 := h.1.2
  have h14 := h.2.1.2
  have hp : ∃ a, a < 10 ∧ (if fr s w = pl s k then tt s w else fr s w) = nI a := by
    have := h.2.2.2.2 w hw
    split
    · exact this.2.1
    · exact this.1
  have i1 : Inv (upd (upd s (11 + 4 * k) (if fr s w = pl s k then tt s w else fr s w)) 6 (s 6 + 1)) := inv_sc (inv_pl h (by omega) hp) _ (by omega)
  unfold waS
  split
  · split
    · exact i1
    · refine inv_sc (inv_sk i1 (by omega) ?_) _ (by omega)
      intro j hj
      have e : nw (upd (upd s (11 + 4 * k) (if fr s w = pl s k then tt s w else fr s w)) 6 (s 6 + 1)) = nw s := by
        show ix (upd _ _ _ 3) = ix (s 3)
        rw [pk_un (by decide), pk_un (by omega)]
      rw [e]
      rw [b_or, Bool.or_eq_true, bt_one (by omega)] at hj
      rcases hj with hj | hj
      · exact (h.2.2.2.1 k hk).2.2.2 j hj
      · have := of_decide_eq_true hj
        omega
  · exact h
theorem inv_wn {s : Nat → Int32} (h : Inv s) {k : Nat} (hk : k < np s) : Inv (wnS s k) := by
  unfold wnS
  split
  · exact inv_dr h
  · split
    · exact inv_dr h
    · next h3 =>
      obtain ⟨w, hw, ew⟩ := w_is h.2.1 h3 (drS (drS s))
      have h14 := h.2.1.2
      rw [ew, ix_nI (by omega)]
      have k2 : Keep s (drS (drS s)) := (dr_keep s).tr (dr_keep _)
      exact inv_wa (inv_dr (inv_dr h)) (by rw [k2.gnp]; exact hk) (by rw [k2.gnw]; exact hw)
theorem inv_fad {k : Nat} : ∀ (f left : Nat) (s : Nat → Int32), k < np s → Inv s → Inv (fadS k f left s)
  | 0, _, s, _, h => h
  | f + 1, left, s, hk, h => by
    have h8 := h.1.2
    simp only [fadS]
    split
    · exact h
    · split
      · have i1 : Inv (upd (upd s (13 + 4 * k) (sk s k &&& ((1 : Int32) <<< (nI (14 - (f + 1)) &&& 31) ^^^ (-1)))) 8 (s 8 + 1)) := by
          refine inv_sc (inv_sk h (by omega) (fun j hj => ?_)) _ (by omega)
          rw [b_and, Bool.and_eq_true] at hj
          exact (h.2.2.2.1 k hk).2.2.2 j hj.1
        refine inv_fad f _ _ ?_ i1
        show k < ix (upd _ _ _ 0)
        rw [pk_un (by decide), pk_un (by omega)]
        exact hk
      · exact inv_fad f _ _ hk h
theorem inv_agS {s : Nat → Int32} (h : Inv s) {k : Nat} (hk : k < np s) : Inv (agS s k) := by
  have h8 := h.1.2
  unfold agS
  obtain ⟨a, ha, e⟩ := (h.2.2.2.1 k hk).2.2.1
  have i1 : Inv (upd s (12 + 4 * k) (if 0 ≤ ag s k + 1 then (if ag s k + 1 ≤ 99 then ag s k + 1 else 99) else 0)) := by
    refine inv_ag h (by omega) ?_
    rw [e, p1]
    split
    · split
      · next h99 =>
        rw [show (99 : Int32) = nI 99 from rfl, le_nI (by omega) (by omega)] at h99
        exact ⟨a + 1, by omega, rfl⟩
      · exact ⟨99, by omega, rfl⟩
    · exact ⟨0, by omega, rfl⟩
  refine inv_fad _ _ _ ?_ i1
  show k < ix (upd _ _ _ 0)
  rw [pk_un (by omega)]
  exact hk
theorem inv_sl {s : Nat → Int32} (h : Inv s) : Inv (slS s) := by
  unfold slS
  split
  · exact inv_dr h
  · split
    · exact inv_dr h
    · next h3 =>
      obtain ⟨w, hw, ew⟩ := w_is h.2.1 h3 (drS (drS s))
      have h14 := h.2.1.2
      rw [ew, ix_nI (by omega)]
      refine inv_sd (inv_dr (inv_dr h)) (by omega) ?_
      rcases (h.2.2.2.2 w hw).2.2 with q | q
      · exact Or.inr (by show 1 - sd s w = 1; rw [q]; decide)
      · exact Or.inl (by show 1 - sd s w = 0; rw [q]; decide)
theorem inv_itw {s : Nat → Int32} (h : Inv s) : ∀ n, n ≤ np s → Inv (itN (fun k s => wnS s k) n s)
  | 0, _ => h
  | n + 1, hn => by
    have ih := inv_itw h n (by omega)
    have h8 := h.1.2
    have hk := it_keep (f := fun k s => wnS s k) (fun k s hk => wn_keep s hk) s n (by omega)
    rw [it_s]
    exact inv_wn ih (by rw [hk.gnp]; omega)
theorem inv_ita {s : Nat → Int32} (h : Inv s) : ∀ n, n ≤ np s → Inv (itN (fun k s => agS s k) n s)
  | 0, _ => h
  | n + 1, hn => by
    have ih := inv_ita h n (by omega)
    have h8 := h.1.2
    have hk := it_keep (f := fun k s => agS s k) (fun k s hk => ag_keep s hk) s n (by omega)
    rw [it_s]
    exact inv_agS ih (by rw [hk.gnp]; omega)
theorem inv_day {s : Nat → Int32} (h : Inv s) : Inv (dayS s) := by
  unfold dayS
  have h8 := h.1.2
  have i1 := inv_itw h (np s) (Nat.le_refl _)
  have k1 := it_keep (f := fun k s => wnS s k) (fun k s hk => wn_keep s hk) s (np s) h8
  have i2 := inv_ita i1 (np s) (by rw [k1.gnp]; exact Nat.le_refl _)
  exact inv_sc (inv_sl i2) _ (by omega)
theorem inv_dys {s : Nat → Int32} (h : Inv s) : ∀ n, Inv (dysS n s)
  | 0 => h
  | n + 1 => by rw [dys_s]; exact inv_day (inv_dys h n)
-- bits of numbers
theorem bt_nI {m j : Nat} (hj : j < 32) : bt (nI m) j = m.testBit j := by
  unfold bt
  show (BitVec.ofNat 32 m).getLsbD j = _
  rw [BitVec.getLsbD_ofNat]
  simp [hj]
theorem low_bit {x : Int32} {p : Nat} (hx : ∃ m, m < 2 ^ 14 ∧ x = nI m) (hp : p < 14) (hz : ∀ j, j < p → ¬ bt x j = true) (h1 : bt x p = true) : x &&& (x - 1) = x &&& ((1 : Int32) <<< (nI p &&& 31) ^^^ (-1)) := by
  obtain ⟨m, hm, rfl⟩ := hx
  have hb : m.testBit p = true := by rw [← bt_nI (by omega)]; exact h1
  have h0 : m % 2 ^ p = 0 := by
    apply Nat.eq_of_testBit_eq
    intro j
    rw [Nat.zero_testBit, Nat.testBit_mod_two_pow]
    by_cases hj : j < p
    · have := hz j hj
      rw [bt_nI (by omega)] at this
      simp [this]
    · simp [hj]
  have hq : m = 2 ^ (p + 1) * (m / 2 ^ (p + 1)) + 2 ^ p := by
    have hd : (m / 2 ^ p) % 2 = 1 := by
      rw [Nat.testBit_eq_decide_div_mod_eq] at hb
      exact of_decide_eq_true hb
    have e1 := Nat.div_add_mod m (2 ^ p)
    have e2 := Nat.div_add_mod (m / 2 ^ p) 2
    rw [Nat.div_div_eq_div_mul, ← Nat.pow_succ] at e2
    rw [h0, Nat.add_zero] at e1
    rw [hd] at e2
    have e3 : 2 ^ p * (2 * (m / 2 ^ (p + 1)) + 1) = m := by rw [e2]; exact e1
    rw [Nat.mul_add, Nat.mul_one, ← Nat.mul_assoc, ← Nat.pow_succ] at e3
    exact e3.symm
  have hpos : 0 < 2 ^ p := Nat.two_pow_pos p
  have hm1 : 1 ≤ m := by
    have : 2 ^ p ≤ m := by rw [hq]; omega
    omega
  have es : nI m - 1 = nI (m - 1) := pk_sub (a := m) (b := 1) hm1
  rw [es]
  apply b_ext
  intro i hi
  rw [b_and, b_and, b_xor, b_m1 i hi, bt_one (by omega), bt_nI hi, bt_nI hi]
  have hm1e : m - 1 = 2 ^ (p + 1) * (m / 2 ^ (p + 1)) + (2 ^ p - 1) := by omega
  have hlt1 : 2 ^ p < 2 ^ (p + 1) := by rw [Nat.pow_succ]; omega
  have tb1 : m.testBit i = if i < p + 1 then (2 ^ p).testBit i else (m / 2 ^ (p + 1)).testBit (i - (p + 1)) := by
    have := Nat.testBit_two_pow_mul_add (m / 2 ^ (p + 1)) hlt1 i
    rw [← hq] at this
    exact this
  have tb2 : (m - 1).testBit i = if i < p + 1 then (2 ^ p - 1).testBit i else (m / 2 ^ (p + 1)).testBit (i - (p + 1)) := by
    have := Nat.testBit_two_pow_mul_add (m / 2 ^ (p + 1)) (show 2 ^ p - 1 < 2 ^ (p + 1) by omega) i
    rw [← hm1e] at this
    exact this
  rw [tb1, tb2]
  by_cases h : i < p + 1
  · rw [if_pos h, if_pos h, Nat.testBit_two_pow, Nat.testBit_two_pow_sub_one]
    by_cases e : i = p
    · subst e; simp
    · have : ¬ p = i := fun q => e q.symm
      simp [this]
  · rw [if_neg h, if_neg h]
    have : ¬ i = p := by omega
    simp [this]
theorem small_bits {x : Int32} {n : Nat} (hn : n ≤ 31) (h : ∀ j, bt x j = true → j < n) : ∃ m, m < 2 ^ n ∧ x = nI m := by
  refine ⟨x.toBitVec.toNat, ?_, ?_⟩
  · apply Nat.lt_pow_two_of_testBit
    intro i hi
    have : bt x i = x.toBitVec.toNat.testBit i := rfl
    rw [← this]
    cases e : bt x i with
    | false => rfl
    | true => exact absurd (h i e) (by omega)
  · apply Int32.toBitVec_inj.1
    apply BitVec.eq_of_toNat_eq
    rw [pk_tn x.toBitVec.isLt]
theorem ix_small {x : Int32} {n : Nat} (hn : n ≤ 31) (h : ∀ j, bt x j = true → j < n) : ix x < 2 ^ n ∧ x = nI (ix x) := by
  obtain ⟨m, hm, rfl⟩ := small_bits hn h
  have h31 : m < 2 ^ 31 := Nat.lt_of_lt_of_le hm (Nat.pow_le_pow_right (by decide) hn)
  rw [ix_nI h31]
  exact ⟨hm, rfl⟩
