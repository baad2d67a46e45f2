-- the program's text
noncomputable def kyS (t : Nat → Int32) (q : Tk) : Int32 := @ite _ (wdP t q 0) (Classical.propDecidable _) 0 (@ite _ (wdP t q 1) (Classical.propDecidable _) 1 (@ite _ (wdP t q 2) (Classical.propDecidable _) 2 (-1)))
theorem ky_is (t : Nat → Int32) (q : Tk) : (kyS t q = 0 ∧ wdP t q 0) ∨ (kyS t q = 1 ∧ ¬ wdP t q 0 ∧ wdP t q 1) ∨ (kyS t q = 2 ∧ ¬ wdP t q 0 ∧ ¬ wdP t q 1 ∧ wdP t q 2) ∨ (kyS t q = -1 ∧ ¬ wdP t q 0 ∧ ¬ wdP t q 1 ∧ ¬ wdP t q 2) := by
  unfold kyS
  by_cases h0 : wdP t q 0
  · rw [if_pos h0]; exact Or.inl ⟨rfl, h0⟩
  · rw [if_neg h0]
    by_cases h1 : wdP t q 1
    · rw [if_pos h1]; exact Or.inr (Or.inl ⟨rfl, h0, h1⟩)
    · rw [if_neg h1]
      by_cases h2 : wdP t q 2
      · rw [if_pos h2]; exact Or.inr (Or.inr (Or.inl ⟨rfl, h0, h1, h2⟩))
      · rw [if_neg h2]; exact Or.inr (Or.inr (Or.inr ⟨rfl, h0, h1, h2⟩))
theorem ky_ok {t : Nat → Int32} {q : Tk} (h : ¬ kyS t q = -1) : q.2.2 = 1 ∧ (kyS t q = 0 ∨ kyS t q = 1 ∨ kyS t q = 2) := by
  rcases ky_is t q with ⟨e, g⟩ | ⟨e, -, g⟩ | ⟨e, -, -, g⟩ | ⟨e, -⟩
  · exact ⟨g.1, Or.inl e⟩
  · exact ⟨g.1, Or.inr (Or.inl e)⟩
  · exact ⟨g.1, Or.inr (Or.inr e)⟩
  · exact absurd e h
def q1S (t : Nat → Int32) (n : Nat) : Tk := nxS t n (0, 0, 3)
noncomputable def txK (t : Nat → Int32) (n : Nat) : Int32 := kyS t (q1S t n)
def s0S (t : Nat → Int32) (n : Nat) : PSt := (nxS t n (q1S t n), 0, fun _ => 0, fun _ => 0, 0)
noncomputable def txR (t : Nat → Int32) (n : Nat) : Bool × PSt := PR t n (txK t n) 1200 0 0 0 (s0S t n)
def txOk (t : Nat → Int32) (n : Nat) : Prop := ¬ txK t n = -1 ∧ (txR t n).1 = true ∧ (txR t n).2.1.2.2 = 0
noncomputable def txF (t : Nat → Int32) (n : Nat) : Nat := if txK t n = -1 then (q1S t n).1 else (txR t n).2.1.1
theorem q1_QI {t : Nat → Int32} {n : Nat} : QI t n (q1S t n) := (nx_QI (Nat.zero_le n)).1
theorem s0_QI {t : Nat → Int32} {n : Nat} : QI t n (s0S t n).1 := (nx_QI q1_QI.2.1).1
theorem tx_QI {t : Nat → Int32} {n : Nat} : QI t n (txR t n).2.1 ∧ (txR t n).2.2.1 ≤ (txR t n).2.1.1 := by
  have hG := pr_G t n (txK t n) 1200 0 0 0 _ (s0_QI (t := t) (n := n))
  refine ⟨hG.1, ?_⟩
  have h := hG.2.2.1
  have z : (s0S t n).2.1 = 0 := rfl
  rw [z] at h
  show (PR t n (txK t n) 1200 0 0 0 (s0S t n)).2.2.1 ≤ (PR t n (txK t n) 1200 0 0 0 (s0S t n)).2.1.1
  omega
theorem tx_WF {t : Nat → Int32} {n : Nat} (h : (txR t n).1 = true) : WF (txK t n) (txR t n).2 1 := by
  have hG := pr_G t n (txK t n) 1200 0 0 0 _ (s0_QI (t := t) (n := n))
  exact hG.2.2.2.2 0 ⟨fun i hi => absurd hi (Nat.not_lt_zero i), rfl⟩ (fun q => by omega) h
theorem txF_le {t : Nat → Int32} {n : Nat} : txF t n ≤ n := by
  unfold txF
  split
  · exact Nat.le_trans q1_QI.1 q1_QI.2.1
  · exact Nat.le_trans tx_QI.1.1 tx_QI.1.2.1
section
variable {l : Launch} {G : GT} {D n : Nat} {M : Mem} {R : Option Value → Mem → Prop} {t : Nat → Int32} {key : Int32} {σ : PSt}
theorem sX5_keyRead (hD : 12 ≤ D) (hn : n ≤ 96) (hX : XP t n key M σ) (hQ : QI t n σ.1) (hR : R (some (.int (if kyS t σ.1 = -1 then (-1000000005) else kyS t σ.1))) M) : Tr l G D mX5_keyRead [.ref (G.1 21)] M R := by
  obtain ⟨d, rfl⟩ := dE (show 4 ≤ D by omega)
  have ky := ky_is t σ.1
  refine tX5_keyRead (sX5_isWord (i := 0) (by omega) (by decide) hn hX hQ (fun w0 => kI_i (bX5_keyRead_6 ⟨fun h => absurd h (by decide), fun _ => ?_⟩)) (fun w0 => kI_i (bX5_keyRead_6 ⟨fun _ => ?_, fun h => absurd rfl h⟩)))
  · rcases ky with ⟨e, -⟩ | ⟨-, g, -⟩ | ⟨-, g, -⟩ | ⟨-, g, -⟩
    · rw [e] at hR; exact hR
    · exact absurd w0 g
    · exact absurd w0 g
    · exact absurd w0 g
  · refine sX5_isWord (i := 1) (by omega) (by decide) hn hX hQ (fun w1 => kI_i (bX5_keyRead_19 ⟨fun h => absurd h (by decide), fun _ => ?_⟩)) (fun w1 => kI_i (bX5_keyRead_19 ⟨fun _ => ?_, fun h => absurd rfl h⟩))
    · rcases ky with ⟨-, g⟩ | ⟨e, -⟩ | ⟨-, -, g, -⟩ | ⟨-, -, g, -⟩
      · exact absurd g w0
      · rw [e] at hR; exact hR
      · exact absurd w1 g
      · exact absurd w1 g
    · refine sX5_isWord (i := 2) (by omega) (by decide) hn hX hQ (fun w2 => kI_i (bX5_keyRead_32 ⟨fun h => absurd h (by decide), fun _ => ?_⟩)) (fun w2 => kI_i (bX5_keyRead_32 ⟨fun _ => ?_, fun h => absurd rfl h⟩))
      · rcases ky with ⟨-, g⟩ | ⟨-, -, g⟩ | ⟨e, -⟩ | ⟨-, -, -, g⟩
        · exact absurd g w0
        · exact absurd g w1
        · rw [e] at hR; exact hR
        · exact absurd w2 g
      · rcases ky with ⟨-, g⟩ | ⟨-, -, g⟩ | ⟨-, -, -, g⟩ | ⟨e, -⟩
        · exact absurd g w0
        · exact absurd g w1
        · exact absurd g w2
        · rw [e] at hR; exact hR
theorem sX5_faultOfText (hD : 140 ≤ D) (hn : n ≤ 96) (e1 : M 21 1 = nI n) (hok : txOk (M 22) n → ∀ M', Ag [21, 23] M M' → XP (M 22) n (txK (M 22) n) M' (txR (M 22) n).2 → R (some (.int (-1000000005))) M') (hno : ¬ txOk (M 22) n → ∀ M', Ag [21, 23] M M' → R (some (.int (nI (txF (M 22) n)))) M') : Tr l G D mX5_faultOfText [.ref (G.1 21)] M R := by
  obtain ⟨d, rfl⟩ := dE (show 4 ≤ D by omega)
  have hA0 : Ag [21] M (um (um (um (um M 21 3 0) 21 4 0) 21 7 0) 21 8 0) := ((((Ag.rf _ M).ua (by decide) _).ua (by decide) _).ua (by decide) _).ua (by decide) _
  refine tX5_faultOfText (sX5_step (q := (0, 0, 3)) (n := n) (by omega) hn ?_ ?_ (Nat.zero_le _) ?_ (fun M1 hA1 hf1 hl1 => kV_i (bX5_faultOfText_24 ?_)))
  · simp (disch := decide) only [um_s, pk_un]; exact e1
  · simp (disch := decide) only [um_s, pk_un, pk_us]; rfl
  · simp (disch := decide) only [um_s, pk_us]; decide
  · have e22 : (um (um (um (um M 21 3 0) 21 4 0) 21 7 0) 21 8 0) 22 = M 22 := hA0 22 (by decide)
    rw [e22] at hl1
    have hA1' : Ag [21] M M1 := hA0.tr hA1
    have hX1 : XP (M 22) n (M1 21 5) M1 (q1S (M 22) n, 0, fun _ => 0, fun _ => 0, 0) := by
      refine ⟨?_, hA1' 22 (by decide), hl1, ?_, fun i hi => absurd hi (Nat.not_lt_zero i), ?_, rfl⟩
      · rw [hf1 1 (by decide) (by decide) (by decide)]
        simp (disch := decide) only [um_s, pk_un]; exact e1
      · rw [hf1 3 (by decide) (by decide) (by decide)]
        simp (disch := decide) only [um_s, pk_un, pk_us]; rfl
      · rw [hf1 4 (by decide) (by decide) (by decide)]
        simp (disch := decide) only [um_s, pk_un, pk_us]; rfl
    refine sX5_keyRead (by omega) hn hX1 q1_QI (kI_i (bX5_faultOfText_29 ?_))
    rw [um_s, pk_us, pk_un (by decide)]
    show ((if txK (M 22) n = -1 then (-1000000005) else txK (M 22) n) = (-1000000005) → _) ∧ (¬ (if txK (M 22) n = -1 then (-1000000005) else txK (M 22) n) = (-1000000005) → _)
    have hA2 : ∀ v, Ag [21, 23] M (um M1 21 5 v) := fun v => (hA1'.sub (by decide)).ua (by decide) _
    by_cases kn : txK (M 22) n = -1
    · refine ⟨fun _ => ?_, fun h => absurd (if_pos kn) h⟩
      have := hno (fun z => z.1 kn) _ (hA2 (if kyS (M 22) (q1S (M 22) n) = -1 then -1000000005 else kyS (M 22) (q1S (M 22) n)))
      have ef : M1 21 6 = nI (txF (M 22) n) := by unfold txF; rw [if_pos kn]; exact hl1.1
      rw [ef]
      exact this
    · obtain ⟨k1, kk⟩ := ky_ok kn
      have ek : (if kyS (M 22) (q1S (M 22) n) = -1 then -1000000005 else kyS (M 22) (q1S (M 22) n)) = txK (M 22) n := if_neg kn
      refine ⟨fun h => ?_, fun _ => ?_⟩
      · rw [if_neg kn] at h
        have kk' : txK (M 22) n = 0 ∨ txK (M 22) n = 1 ∨ txK (M 22) n = 2 := kk
        rcases kk' with g | g | g <;> rw [g] at h <;> exact absurd h (by decide)
      · rw [ek]
        have hX2 : XP (M 22) n (txK (M 22) n) (um M1 21 5 (txK (M 22) n)) (q1S (M 22) n, 0, fun _ => 0, fun _ => 0, 0) := by
          obtain ⟨a1, a2, ⟨a3, a4, a5⟩, a6, a7, a8, a9⟩ := hX1
          refine ⟨?_, ?_, ⟨?_, ?_, ?_⟩, ?_, fun i hi => absurd hi (Nat.not_lt_zero i), ?_, ?_⟩
          · rw [um_s, pk_un (by decide)]; exact a1
          · rw [um_n _ _ _ (by decide)]; exact a2
          · rw [um_s, pk_un (by decide)]; exact a3
          · rw [um_s, pk_un (by decide)]; exact a4
          · rw [um_s, pk_un (by decide)]; exact a5
          · rw [um_s, pk_un (by decide)]; exact a6
          · rw [um_s, pk_un (by decide)]; exact a8
          · rw [um_s, pk_us]
        have hk4 : (q1S (M 22) n).2.2 ≠ 4 := by rw [k1]; decide
        refine sX5_stepP (σ := (q1S (M 22) n, 0, fun _ => 0, fun _ => 0, 0)) (by omega) hn hX2 q1_QI hk4 (fun M3 hA3 hX3 => kV_i (bX5_faultOfText_50 ?_))
        have hA3' : Ag [21, 23] M M3 := (hA2 _).tr (hA3.sub (by decide))
        have hb := (s0_QI (t := M 22) (n := n)).1
        have he := (s0_QI (t := M 22) (n := n)).2.1
        refine (sim_X hn kk 1200).1 0 0 0 (s0S (M 22) n) M3 (d + 3) _ (by omega) (by omega) (by omega) (by omega) (by omega) s0_QI (Nat.zero_le _) hX3 ?_
        intro M4 hA4 g1 g2
        have hA4' := hA3'.tr hA4
        refine kI_i (bX5_faultOfText_57 ⟨fun y => ?_, fun y => ?_⟩)
        · rw [bl_0] at y
          have ef : M4 21 6 = nI (txF (M 22) n) := by unfold txF; rw [if_neg kn]; exact (g2 y).1
          rw [ef]
          exact hno (fun z => y z.2.1) M4 hA4'
        · rw [bl_0, Classical.not_not] at y
          have hX4 := g1 y
          have hk := (hX4.k tx_QI.1).2.2.2
          have ef : M4 21 6 = nI (txF (M 22) n) := by unfold txF; rw [if_neg kn]; exact hX4.2.2.1.1
          refine ⟨fun h0 => hok ⟨kn, y, hk.mp h0⟩ M4 hA4' hX4, fun h0 => ?_⟩
          rw [ef]
          exact hno (fun z => h0 (hk.mpr z.2.2)) M4 hA4'
def TxX (t : Nat → Int32) (n : Nat) (T : Nat) (M M' : Mem) : Prop := Ag [3, 4, 5, 7 + T, 21, 23, 30, 38] M M' ∧ M' 21 1 = 0 ∧ M' 3 = upd (M 3) T (nI (txR t n).2.2.1) ∧ M' 4 = upd (M 4) T (txK t n) ∧ M' 5 = upd (M 5) T (nI (txR t n).2.2.2.2.2) ∧ (∀ i, i < (txR t n).2.2.1 → M' (7 + T) i = encS ((txR t n).2.2.2.1 i) ((txR t n).2.2.2.2.1 i)) ∧ M' 30 = upd (M 30) 18 (nI (T + 1)) ∧ M' 38 = upd (M 38) (ix (txK t n)) (nI T)
theorem X_text {T : Nat} (hD : 146 ≤ D) (hn : n ≤ 96) (hT : T ≤ 14) (e1 : M 21 1 = nI n) (e18 : M 30 18 = nI T) (hno : ¬ txOk (M 22) n → ∀ M', Ag [21, 23] M M' → M' 21 1 = 0 → R (some (.int (-100 - nI (txF (M 22) n)))) M') (hfull : txOk (M 22) n → T = 14 → ∀ M', Ag [21, 23] M M' → M' 21 1 = 0 → R (some (.int (-1000000003))) M') (hR : txOk (M 22) n → T < 14 → ∀ M', TxX (M 22) n T M M' → R (some (.int (nI T))) M') : Tr l G D mX7_text [.ref (G.1 0)] M R := by
  obtain ⟨d, rfl⟩ := dE (show 4 ≤ D by omega)
  have s14 : nI T < 14 ↔ T < 14 := lt_nI (b := 14) (by omega) (by decide)
  refine tX7_text (sX5_faultOfText (by omega) hn e1 (fun ok M1 hA1 hX1 => kI_i (bX7_text_7 ⟨fun _ => ?_, fun h => absurd rfl h⟩)) (fun no M1 hA1 => kI_i (bX7_text_7 ⟨fun h => ?_, fun _ => hno no _ (hA1.ua (by decide) _) (by rw [um_s, pk_us])⟩)))
  · have e18' : (um M1 21 1 0) 30 18 = nI T := by rw [um_n _ _ _ (by decide), hA1 30 (by decide)]; exact e18
    rw [e18', s14]
    refine ⟨fun h => ?_, fun h => hfull ok (by omega) _ (hA1.ua (by decide) _) (by rw [um_s, pk_us])⟩
    have hR := hR ok h
    obtain ⟨d2, ed⟩ := dE (show 4 ≤ d + 3 by omega)
    rw [ed]
    have xT := ix_nI (show T < 2 ^ 31 by omega)
    have z21 : ∀ j, j ≠ 1 → (um M1 21 1 0) 21 j = M1 21 j := fun j hj => by rw [um_s, pk_un hj]
    refine tX2_take ⟨vpn h (by decide), fun M2 e2 => ⟨vpn h (by decide), vpn h (by decide), fun M5 e5 => ⟨vpn h (by decide), kV_i ?_⟩⟩⟩
    rw [xT] at e2 e5 ⊢
    have m2 : ∀ k, k ≠ 7 + T → M2 k = (um M1 21 1 0) k := fun k hk => by rw [e2]; exact ua_n _ _ hk
    have m5 : ∀ k, k ≠ 3 → k ≠ 4 → M5 k = M2 k := fun k h3 h4 => by rw [e5, um_n _ _ _ h4, um_n _ _ _ h3]
    obtain ⟨a1, a2, a3, a6, a7, a8, a9⟩ := hX1
    have k21 : M2 21 = (um M1 21 1 0) 21 := m2 21 (by omega)
    rw [um_n _ _ _ (by decide), k21, z21 3 (by decide), z21 5 (by decide), a6, a9] at e5
    have k21' : M5 21 = (um M1 21 1 0) 21 := by rw [m5 21 (by decide) (by decide), k21]
    rw [k21', z21 4 (by decide), a8]
    have y5 : (um M5 5 T (nI (txR (M 22) n).2.2.2.2.2)) 21 5 = txK (M 22) n := by rw [um_n _ _ _ (by decide), k21', z21 5 (by decide)]; exact a9
    have kk := ky_ok ok.1
    have kv : vp_in (txK (M 22) n) 3 ∧ ix (txK (M 22) n) < 3 := by
      have kk2 : txK (M 22) n = 0 ∨ txK (M 22) n = 1 ∨ txK (M 22) n = 2 := kk.2
      rcases kk2 with g | g | g <;> rw [g] <;> exact ⟨vpn (by decide) (by decide), by decide⟩
    refine bX7_text_62 ⟨by rw [y5]; exact kv.1, fun M6 e6 => hR M6 ?_⟩
    rw [y5] at e6
    have q30 : M5 30 = M 30 := by rw [m5 30 (by decide) (by decide), m2 30 (by omega), um_n _ _ _ (by decide), hA1 30 (by decide)]
    have q38 : M5 38 = M 38 := by rw [m5 38 (by decide) (by decide), m2 38 (by omega), um_n _ _ _ (by decide), hA1 38 (by decide)]
    rw [um_n _ _ _ (by decide), um_n _ _ _ (by decide), q30, e18, p1] at e6
    have m6 : ∀ k, k ≠ 30 → k ≠ 38 → k ≠ 5 → M6 k = M5 k := fun k h1 h2 h3 => by rw [e6, um_n _ _ _ h1, um_n _ _ _ h2, um_n _ _ _ h3]
    refine ⟨fun k hk => ?_, ?_, ?_, ?_, ?_, fun i hi => ?_, ?_, ?_⟩
    · simp only [List.mem_cons, List.not_mem_nil, or_false, not_or] at hk
      rw [m6 k (by omega) (by omega) (by omega), m5 k (by omega) (by omega), m2 k (by omega), um_n _ _ _ (by omega)]
      exact hA1 k (by simp; omega)
    · rw [m6 21 (by decide) (by decide) (by decide), k21', um_s, pk_us]
    · rw [m6 3 (by decide) (by decide) (by decide), e5, um_n _ _ _ (by decide), um_s, m2 3 (by omega), um_n _ _ _ (by decide), hA1 3 (by decide)]
    · rw [m6 4 (by decide) (by decide) (by decide), e5, um_s, um_n _ _ _ (by decide), m2 4 (by omega), um_n _ _ _ (by decide), hA1 4 (by decide)]
    · rw [e6, um_n _ _ _ (by decide), um_n _ _ _ (by decide), um_s, m5 5 (by decide) (by decide), m2 5 (by omega), um_n _ _ _ (by decide), hA1 5 (by decide)]
    · rw [m6 (7 + T) (by omega) (by omega) (by omega), m5 (7 + T) (by omega) (by omega), e2, ua_s, um_n _ _ _ (by decide)]
      have hm := (tx_QI (t := M 22) (n := n)).2
      have hb := (tx_QI (t := M 22) (n := n)).1.1
      have he := (tx_QI (t := M 22) (n := n)).1.2.1
      show va_cpy (M1 23) _ 0 0 96 i = _
      rw [sb_cpy0 (by omega)]
      exact a7 i hi
    · rw [e6, um_s, um_n _ _ _ (by decide), um_n _ _ _ (by decide), q30]
    · rw [e6, um_n _ _ _ (by decide), um_s, um_n _ _ _ (by decide), q38]
  · have hle := txF_le (t := M 22) (n := n)
    rw [teq, tnI (by omega), show (-1000000005 : Int32).toInt = -1000000005 from rfl] at h
    omega
end
