theorem fad_0 (k f : Nat) (s : Nat → Int32) : fadS k f 0 s = s := by
  cases f with
  | zero => rfl
  | succ f => simp only [fadS, if_true]
theorem fad_z {k : Nat} : ∀ (f left : Nat) (s : Nat → Int32), sk s k = 0 → fadS k f left s = s
  | 0, _, _, _ => rfl
  | f + 1, left, s, h => by
    simp only [fadS]
    rw [show bt (sk s k) (14 - (f + 1)) = false by rw [h, b_0]]
    rw [fad_z f left s h]
    split <;> rfl
def Zb (s : Nat → Int32) (k f : Nat) : Prop := ∀ j, bt (sk s k) j = true → 14 - f ≤ j ∧ j < 14
theorem fad_step {k : Nat} (hk : k < 8) (left : Nat) (s : Nat → Int32) : ∀ f, f ≤ 14 → Zb s k f → ¬ sk s k = 0 → ∃ f', f' ≤ 14 ∧ fadS k f (left + 1) s = fadS k f' left (upd (upd s (13 + 4 * k) (sk s k &&& (sk s k - 1))) 8 (s 8 + 1)) ∧ Zb (upd (upd s (13 + 4 * k) (sk s k &&& (sk s k - 1))) 8 (s 8 + 1)) k f'
  | 0, _, hz, hne => by
    exfalso
    apply hne
    apply b_ext
    intro i hi
    rw [b_0]
    cases e : bt (sk s k) i with
    | false => rfl
    | true => have := hz i e; omega
  | f + 1, hf, hz, hne => by
    by_cases hb : bt (sk s k) (14 - (f + 1)) = true
    · have hlow : sk s k &&& (sk s k - 1) = sk s k &&& ((1 : Int32) <<< (nI (14 - (f + 1)) &&& 31) ^^^ (-1)) := by
        refine low_bit (small_bits (by decide) (fun j hj => (hz j hj).2)) (by omega) (fun j hj hj2 => ?_) hb
        have := (hz j hj2).1
        omega
      refine ⟨f, by omega, ?_, ?_⟩
      · simp only [fadS]
        rw [if_neg (by omega), if_pos hb, hlow]
        rfl
      · intro j hj
        have e1 : sk (upd (upd s (13 + 4 * k) (sk s k &&& (sk s k - 1))) 8 (s 8 + 1)) k = sk s k &&& (sk s k - 1) := by
          show upd _ _ _ (13 + 4 * k) = _
          rw [pk_un (by omega), pk_us]
        rw [e1, hlow, b_and, Bool.and_eq_true] at hj
        obtain ⟨h1, h2⟩ := hj
        have h3 := hz j h1
        rw [b_xor, bt_one (by omega), b_m1 j (by omega)] at h2
        have : j ≠ 14 - (f + 1) := by
          intro e
          rw [decide_eq_true e] at h2
          exact absurd h2 (by decide)
        omega
    · have hz' : Zb s k f := by
        intro j hj
        have h3 := hz j hj
        have : j ≠ 14 - (f + 1) := by
          intro e
          rw [e] at hj
          exact hb hj
        omega
      obtain ⟨f', h1, h2, h3⟩ := fad_step hk left s f (by omega) hz' hne
      refine ⟨f', h1, ?_, h3⟩
      simp only [fadS]
      rw [if_neg (by omega), if_neg hb]
      exact h2
section
variable {l : Launch} {G : GT} {D : Nat} {M : Mem} {R : Option Value → Mem → Prop} {b : Nat} {s : Nat → Int32}
theorem sX1_grow {k : Nat} (hb : IsLd b) (hD : 4 ≤ D) (hX : XS M b s) (hk : k < np s) (hR : ∀ M', Ag (ldC b) M M' → LR M' b (agS s k) → R none M') : Tr l G D mX1_grow [.ref (G.1 b), .int (nI k)] M R := by
  obtain ⟨d, rfl⟩ := dE hD
  have h8 := hX.2.1.1.2
  have hW := hX.2.1.2.1
  have hv8 : vp_in (nI k) 8 := vpn (by omega) (by decide)
  obtain ⟨-, -, ⟨a, ha, ea⟩, hbits⟩ := hX.2.1.2.2.2.1 k hk
  have h14 := hW.2
  refine tX1_grow hb ⟨hv8, hv8, fun M3 hM3 => ⟨hv8, ?_⟩⟩
  rw [ix_nI (by omega)] at hM3 ⊢
  have ev : (if 99 < M (b + 3) k + 1 then 99 else M (b + 3) k + 1) = (if 0 ≤ ag s k + 1 then (if ag s k + 1 ≤ 99 then ag s k + 1 else 99) else 0) := by
    rw [hX.1.2.2.2.1 k (by omega), ea, p1, if_pos (zl _ (by omega)), show (99 : Int32) = nI 99 from rfl]
    by_cases h : a + 1 ≤ 99
    · rw [if_neg (by rw [lt_nI (by omega) (by omega)]; omega), if_pos (by rw [le_nI (by omega) (by omega)]; exact h)]
    · rw [if_pos (by rw [lt_nI (by omega) (by omega)]; omega), if_neg (by rw [le_nI (by omega) (by omega)]; exact h)]
  rw [ev] at hM3
  have hL3 : LR M3 b (upd s (12 + 4 * k) (if 0 ≤ ag s k + 1 then (if ag s k + 1 ≤ 99 then ag s k + 1 else 99) else 0)) := by
    rw [hM3]
    exact LR_ag hW hX.1 (by omega) _
  have hA3 : Ag (ldC b) M M3 := by rw [hM3]; exact Ag.ua (Ag.rf _ _) (by simp [ldC]) _
  have hk3 : Keep s (upd s (12 + 4 * k) (if 0 ≤ ag s k + 1 then (if ag s k + 1 ≤ 99 then ag s k + 1 else 99) else 0)) := Keep.up _ (Or.inr (Or.inr (Or.inr (Or.inr (Or.inr (Or.inl ⟨k, by omega, Or.inr (Or.inl rfl)⟩))))))
  unfold agS at hR
  simp only at hR
  generalize hs3 : upd s (12 + 4 * k) (if 0 ≤ ag s k + 1 then (if ag s k + 1 ≤ 99 then ag s k + 1 else 99) else 0) = s3 at hL3 hk3 hR
  have hz : Zb s3 k 14 := by
    intro j hj
    have e1 : sk s3 k = sk s k := by rw [← hs3]; exact pk_un (by omega)
    rw [e1] at hj
    have := hbits j hj
    omega
  have ekd : kd s k = kd s3 k := (hk3.2.2.2.2.2.2.2 k (by omega)).symm
  rw [ekd] at hR
  rw [hL3.2.2.2.1 k (by omega), hL3.2.1 k (by omega)]
  simp only [irm_f]
  have hW3 := hk3.gwi hW
  have loop : ∀ left f (s' : Nat → Int32) (M' : Mem) (i loses : Nat), f ≤ 14 → Zb s' k f → loses = i + left → loses ≤ 2 → Ag (ldC b) M M' → LR M' b s' → WI s' → (∀ M'', Ag (ldC b) M M'' → LR M'' b (fadS k f left s') → R none M'') → At l G (d + 4) mX1_grow 44 [some (.ref (G.1 b)), some (.int (nI k)), some (.int (nI loses)), some (.int (nI i))] [] M' R := by
    intro left
    induction left with
    | zero =>
      intro f s' M' i loses hf hz hl h2 hA hL hW hR
      refine bX1_grow_44 hb ⟨fun _ => hR M' hA (by rw [fad_0]; exact hL), fun h => absurd ?_ h⟩
      rw [le_nI (by omega) (by omega)]
      omega
    | succ left ih =>
      intro f s' M' i loses hf hz hl h2 hA hL hW hR
      refine bX1_grow_44 hb ⟨fun h => absurd h ?_, fun _ => ⟨hv8, ?_⟩⟩
      · rw [le_nI (by omega) (by omega)]
        omega
      · rw [ix_nI (by omega), hL.2.2.2.2.1 k (by omega)]
        refine ⟨fun h0 => hR M' hA (by rw [fad_z _ _ _ h0]; exact hL), fun h0 => ⟨hv8, hv8, hv8, fun M7 hM7 => ?_⟩⟩
        obtain ⟨f', g1, g2, g3⟩ := fad_step (by omega) left s' f hf hz h0
        rw [g2] at hR
        have hL7 : LR M7 b (upd s' (13 + 4 * k) (sk s' k &&& (sk s' k - 1))) := by
          rw [hM7]
          exact LR_sk hW hL (by omega) _
        have hk7 : Keep s' (upd s' (13 + 4 * k) (sk s' k &&& (sk s' k - 1))) := Keep.up _ (Or.inr (Or.inr (Or.inr (Or.inr (Or.inr (Or.inl ⟨k, by omega, Or.inr (Or.inr rfl)⟩))))))
        have e15 : M7 b 15 = s' 8 := by
          rw [hM7, um_n _ _ _ (by omega)]
          exact hL.1.2.2.2.2.2.2.2.1
        rw [p1, e15]
        refine ih f' _ _ (i + 1) loses g1 g3 (by omega) h2 ?_ (LR_15 (hk7.gwi hW) hL7 _) ((hk7.tr (Keep.up _ (by simp))).gwi hW) hR
        rw [hM7]
        exact (hA.ua (by simp [ldC]) _).ua (by simp [ldC]) _
  refine ⟨fun h => ⟨hv8, fun h1 => ?_, fun h3 => ?_, fun h1 h3 => ?_⟩, fun h => ?_⟩
  · rw [if_pos h] at hR
    refine loop 0 14 s3 M3 0 0 (by decide) hz rfl (by decide) hA3 hL3 hW3 ?_
    rw [show losN (kd s3 k) = 0 by unfold losN; rw [if_pos h1]] at hR
    exact hR
  · rw [if_pos h] at hR
    refine loop 2 14 s3 M3 0 2 (by decide) hz rfl (by decide) hA3 hL3 hW3 ?_
    rw [show losN (kd s3 k) = 2 by unfold losN; rw [if_neg (fun q => absurd (h3.symm.trans q) (by decide)), if_pos h3]] at hR
    exact hR
  · rw [if_pos h] at hR
    refine loop 1 14 s3 M3 0 1 (by decide) hz rfl (by decide) hA3 hL3 hW3 ?_
    rw [show losN (kd s3 k) = 1 by unfold losN; rw [if_neg h1, if_neg h3]] at hR
    exact hR
  · rw [if_neg h, fad_0] at hR
    exact hR M3 hA3 hL3
theorem sX1_slip (hb : IsLd b) (hD : 4 ≤ D) (hX : XS M b s) (hR : ∀ M', Ag (ldC b) M M' → LR M' b (slS s) → R none M') : Tr l G D mX1_slip [.ref (G.1 b)] M R := by
  obtain ⟨d, rfl⟩ := dE hD
  have hX1 := hX.dr hb
  have hA1 : Ag (ldC b) M (um M b 17 (M b 17 * 1103515245 + 12345)) := Ag.ua (Ag.rf _ _) (by simp [ldC]) _
  refine tX1_slip hb ?_
  generalize um M b 17 (M b 17 * 1103515245 + 12345) = M1 at hX1 hA1 ⊢
  have h14 := hX.2.1.2.1.2
  rw [dv_X hX1.1.1.2.2.2.2.2.2.2.2.2.1, hX1.1.1.2.2.2.2.1, hX1.1.1.2.1, dr_n _ (by decide), dr_n _ (by decide)]
  simp only [irm_f]
  refine ⟨fun h => ?_, fun h => ⟨fun h3 => ?_, fun h3 M3 hM3 => ?_⟩⟩
  · refine hR M1 hA1 ?_
    unfold slS
    rw [if_pos h]
    exact hX1.1
  · refine hR M1 hA1 ?_
    unfold slS
    rw [if_neg h, if_pos (by rw [h3]; decide)]
    exact hX1.1
  · have hX3 : XS M3 b (drS (drS s)) := by rw [hM3]; exact hX1.dr hb
    have hA3 : Ag (ldC b) M M3 := by rw [hM3]; exact hA1.ua (by simp [ldC]) _
    have h3' : ¬ s 3 ≤ 0 := by
      rw [hX.2.1.2.1.1] at h3 ⊢
      rw [show (0 : Int32) = nI 0 from rfl, nI_eq (by omega) (by omega)] at h3
      rw [show (0 : Int32) = nI 0 from rfl, le_nI (by omega) (by omega)]
      omega
    obtain ⟨w, hw, ew⟩ := w_is hX.2.1.2.1 h3' (drS (drS s))
    have e36 : M3 b 6 = s 3 := by rw [hX3.1.1.2.1, dr_n _ (by decide), dr_n _ (by decide)]
    have e10 : M1 b 10 = M3 b 10 := by rw [hM3, um_s, pk_un (by decide)]
    rw [dv_X hX3.1.1.2.2.2.2.2.2.2.2.2.1, e36, e10]
    try simp only [irm_f]
    rw [ew]
    refine ⟨h3, fun M5 hM5 => ?_⟩
    refine hR M5 (by rw [hM5]; exact hA3.ua (by simp [ldC]) _) ?_
    unfold slS
    rw [if_neg h, if_neg h3', ew, ix_nI (by omega), hM5]
    have hk2 : Keep s (drS (drS s)) := (dr_keep s).tr (dr_keep _)
    refine LR_st hX3.2.1.2.1 hX3.1 (by rw [hk2.gnw]; exact hw) ?_
    have esd : sd (drS (drS s)) w = sd s w := by show drS (drS s) (44 + 3 * w) = _; rw [dr_n _ (by omega), dr_n _ (by omega)]
    rw [esd]
    rcases (hX.2.1.2.2.2.2 w hw).2.2 with q | q
    · have q : s (44 + 3 * w) = 0 := q
      rw [q]
      exact ⟨fun _ z => absurd (q.symm.trans z) (by decide), fun _ => by decide⟩
    · have q : s (44 + 3 * w) = 1 := q
      rw [q]
      exact ⟨fun h => absurd h (by decide), fun h => absurd q h⟩
theorem sX1_passDays {n : Nat} (hb : IsLd b) (hD : 24 ≤ D) (hn : n < 2 ^ 30) (hX : XS M b s) (hR : ∀ M', Ag (ldC b) M M' → XS M' b (dysS n s) → R none M') : Tr l G D mX1_passDays [.ref (G.1 b), .int (nI n)] M R := by
  obtain ⟨d, rfl⟩ := dE (show 4 ≤ D by omega)
  refine tX1_passDays hb ?_
  have day : ∀ (s' : Nat → Int32) (M' : Mem) (v2 : Int32), Ag (ldC b) M M' → XS M' b s' → (∀ M'', Ag (ldC b) M M'' → XS M'' b (dayS s') → At l G (d + 4) mX1_passDays 2 [some (.ref (G.1 b)), some (.int (nI n)), some (.int (v2 + 1)), none] [] M'' R) → At l G (d + 4) mX1_passDays 9 [some (.ref (G.1 b)), some (.int (nI n)), some (.int v2), some (.int 0)] [] M' R := by
    intro s0 M0 v2 hA0 hX0 next
    have h8 := hX0.2.1.1.2
    have i1 := inv_itw hX0.2.1 (np s0) (Nat.le_refl _)
    have k1 := it_keep (f := fun k s => wnS s k) (fun k s hk => wn_keep s hk) s0 (np s0) h8
    have i2 := inv_ita i1 (np s0) (by rw [k1.gnp]; exact Nat.le_refl _)
    have k2 := it_keep (f := fun k s => agS s k) (fun k s hk => ag_keep s hk) (itN (fun k s => wnS s k) (np s0) s0) (np s0) h8
    have last : ∀ M', Ag (ldC b) M M' → XS M' b (itN (fun k s => agS s k) (np s0) (itN (fun k s => wnS s k) (np s0) s0)) → At l G (d + 4) mX1_passDays 30 [some (.ref (G.1 b)), some (.int (nI n)), some (.int v2), some (.int (nI (np s0)))] [] M' R := by
      intro M' hA hX'
      refine bX1_passDays_30 hb ⟨fun _ => ?_, fun h => absurd ?_ h⟩
      · refine sX1_slip hb (by omega) hX' (fun M2 hA2 hL2 => kV_i (bX1_passDays_53 hb ?_))
        have e16 : M2 b 16 = slS (itN (fun k s => agS s k) (np s0) (itN (fun k s => wnS s k) (np s0) s0)) 2 := hL2.1.2.2.2.2.2.2.2.2.1
        have ks := sl_keep i2.2.1
        refine next _ ((hA.tr hA2).ua (by simp [ldC]) _) (hX'.mv hb (hA2.ua (by simp [ldC]) _) (ks.tr (Keep.up (slS (itN (fun k s => agS s k) (np s0) (itN (fun k s => wnS s k) (np s0) s0)) 2 + 1) (j := 2) (by simp))) ?_ (inv_sc (inv_sl i2) _ (by omega)))
        rw [e16]
        exact LR_16 (ks.gwi i2.2.1) hL2 _
      · rw [hX'.1.1.1, (k1.tr k2).1, hX0.2.1.1.1, le_nI (by omega) (by omega)]
        exact Nat.le_refl _
    have second : ∀ k, k ≤ np s0 → ∀ M', Ag (ldC b) M M' → XS M' b (itN (fun k s => agS s k) k (itN (fun k s => wnS s k) (np s0) s0)) → At l G (d + 4) mX1_passDays 30 [some (.ref (G.1 b)), some (.int (nI n)), some (.int v2), some (.int (nI k))] [] M' R := by
      refine upL (fun k => ∀ M', Ag (ldC b) M M' → XS M' b (itN (fun k s => agS s k) k (itN (fun k s => wnS s k) (np s0) s0)) → At l G (d + 4) mX1_passDays 30 [some (.ref (G.1 b)), some (.int (nI n)), some (.int v2), some (.int (nI k))] [] M' R) _ last ?_
      intro k hk ih M' hA hX'
      have k2 := it_keep (f := fun k s => agS s k) (fun k s hk => ag_keep s hk) (itN (fun k s => wnS s k) (np s0) s0) k (by omega)
      refine bX1_passDays_30 hb ⟨fun h => absurd h ?_, fun _ => ?_⟩
      · rw [hX'.1.1.1, (k1.tr k2).1, hX0.2.1.1.1, le_nI (by omega) (by omega)]
        omega
      · have hkn : k < np (itN (fun k s => agS s k) k (itN (fun k s => wnS s k) (np s0) s0)) := by rw [(k1.tr k2).gnp]; exact hk
        refine sX1_grow hb (by omega) hX' hkn (fun M2 hA2 hL2 => kV_i (bX1_passDays_43 hb ?_))
        rw [p1]
        refine ih M2 (hA.tr hA2) ?_
        rw [it_s]
        exact hX'.mv hb hA2 (ag_keep _ (by omega)) hL2 (inv_agS hX'.2.1 hkn)
    have first : ∀ k, k ≤ np s0 → ∀ M', Ag (ldC b) M M' → XS M' b (itN (fun k s => wnS s k) k s0) → At l G (d + 4) mX1_passDays 9 [some (.ref (G.1 b)), some (.int (nI n)), some (.int v2), some (.int (nI k))] [] M' R := by
      refine upL (fun k => ∀ M', Ag (ldC b) M M' → XS M' b (itN (fun k s => wnS s k) k s0) → At l G (d + 4) mX1_passDays 9 [some (.ref (G.1 b)), some (.int (nI n)), some (.int v2), some (.int (nI k))] [] M' R) _ ?_ ?_
      · intro M' hA hX'
        refine bX1_passDays_9 hb ⟨fun _ => second 0 (Nat.zero_le _) M' hA hX', fun h => absurd ?_ h⟩
        rw [hX'.1.1.1, k1.1, hX0.2.1.1.1, le_nI (by omega) (by omega)]
        exact Nat.le_refl _
      · intro k hk ih M' hA hX'
        have k3 := it_keep (f := fun k s => wnS s k) (fun k s hk => wn_keep s hk) s0 k (by omega)
        refine bX1_passDays_9 hb ⟨fun h => absurd h ?_, fun _ => ?_⟩
        · rw [hX'.1.1.1, k3.1, hX0.2.1.1.1, le_nI (by omega) (by omega)]
          omega
        · have hkn : k < np (itN (fun k s => wnS s k) k s0) := by rw [k3.gnp]; exact hk
          refine sX1_wander hb (by omega) hX' hkn (fun M2 hA2 hL2 => kV_i (bX1_passDays_22 hb ?_))
          rw [p1]
          refine ih M2 (hA.tr hA2) ?_
          rw [it_s]
          exact hX'.mv hb hA2 (wn_keep _ (by omega)) hL2 (inv_wn hX'.2.1 hkn)
    exact first 0 (Nat.zero_le _) M0 hA0 hX0
  have loop : ∀ k, k ≤ n → ∀ M', Ag (ldC b) M M' → XS M' b (dysS k s) → At l G (d + 4) mX1_passDays 2 [some (.ref (G.1 b)), some (.int (nI n)), some (.int (nI k)), none] [] M' R := by
    refine upL (fun k => ∀ M', Ag (ldC b) M M' → XS M' b (dysS k s) → At l G (d + 4) mX1_passDays 2 [some (.ref (G.1 b)), some (.int (nI n)), some (.int (nI k)), none] [] M' R) n ?_ ?_
    · intro M' hA hX'
      exact bX1_passDays_2 hb ⟨fun _ => hR M' hA hX', fun h => absurd (Int32.le_refl _) h⟩
    · intro k hk ih M' hA hX'
      refine bX1_passDays_2 hb ⟨fun h => absurd h (by rw [le_nI (by omega) (by omega)]; omega), fun _ => ?_⟩
      refine day (dysS k s) M' (nI k) hA hX' (fun M2 hA2 hX2 => ?_)
      rw [p1]
      exact ih M2 hA2 (by rw [dys_s]; exact hX2)
  exact loop 0 (Nat.zero_le _) M (Ag.rf _ M) hX
end
