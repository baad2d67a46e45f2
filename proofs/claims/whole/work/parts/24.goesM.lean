-- a day of the reference
def itN (f : Nat → (Nat → Int32) → Nat → Int32) : Nat → (Nat → Int32) → Nat → Int32
  | 0, s => s
  | n + 1, s => f n (itN f n s)
theorem it_s (f : Nat → (Nat → Int32) → Nat → Int32) (n : Nat) (s : Nat → Int32) : itN f (n + 1) s = f n (itN f n s) := rfl
theorem um_dr (M : Mem) (k : Nat) : um M k 9 (M k 9 * 1103515245 + 12345) = ua M k (drS (M k)) := rfl
def wnS (s : Nat → Int32) (k : Nat) : Nat → Int32 :=
  if urS (drS s) k ≤ irm (dvS (drS s)) 100 then drS s else if s 3 ≤ 0 then drS s else waS (drS (drS s)) k (ix (irm (dvS (drS (drS s))) (s 3)))
def slS (s : Nat → Int32) : Nat → Int32 :=
  if s 5 ≤ irm (dvS (drS s)) 100 then drS s else if s 3 ≤ 0 then drS s else upd (drS (drS s)) (44 + 3 * ix (irm (dvS (drS (drS s))) (s 3))) (1 - s (44 + 3 * ix (irm (dvS (drS (drS s))) (s 3))))
def dayS (s : Nat → Int32) : Nat → Int32 :=
  let b := slS (itN (fun k s => agS s k) (np s) (itN (fun k s => wnS s k) (np s) s))
  upd b 2 (b 2 + 1)
def Keep (s s' : Nat → Int32) : Prop := s' 0 = s 0 ∧ s' 1 = s 1 ∧ s' 3 = s 3 ∧ s' 4 = s 4 ∧ s' 5 = s 5 ∧ (∀ j, 84 ≤ j → s' j = s j) ∧ (∀ w, w < 14 → fr s' w = fr s w ∧ tt s' w = tt s w) ∧ ∀ k, k < 8 → kd s' k = kd s k
theorem Keep.rf (s : Nat → Int32) : Keep s s := ⟨rfl, rfl, rfl, rfl, rfl, fun _ _ => rfl, fun _ _ => ⟨rfl, rfl⟩, fun _ _ => rfl⟩
theorem Keep.tr {s s' s'' : Nat → Int32} (h : Keep s s') (g : Keep s' s'') : Keep s s'' :=
  ⟨g.1.trans h.1, g.2.1.trans h.2.1, g.2.2.1.trans h.2.2.1, g.2.2.2.1.trans h.2.2.2.1, g.2.2.2.2.1.trans h.2.2.2.2.1, fun j hj => (g.2.2.2.2.2.1 j hj).trans (h.2.2.2.2.2.1 j hj), fun w hw => ⟨(g.2.2.2.2.2.2.1 w hw).1.trans (h.2.2.2.2.2.2.1 w hw).1, (g.2.2.2.2.2.2.1 w hw).2.trans (h.2.2.2.2.2.2.1 w hw).2⟩, fun k hk => (g.2.2.2.2.2.2.2 k hk).trans (h.2.2.2.2.2.2.2 k hk)⟩
theorem Keep.up {s : Nat → Int32} {j : Nat} (v : Int32) (hj : j = 2 ∨ j = 6 ∨ j = 7 ∨ j = 8 ∨ j = 9 ∨ (∃ k, k < 8 ∧ (j = 11 + 4 * k ∨ j = 12 + 4 * k ∨ j = 13 + 4 * k)) ∨ ∃ w, w < 14 ∧ j = 44 + 3 * w) : Keep s (upd s j v) := by
  have key : ∀ i, (i = 0 ∨ i = 1 ∨ i = 3 ∨ i = 4 ∨ i = 5 ∨ 84 ≤ i ∨ (∃ w, w < 14 ∧ (i = 42 + 3 * w ∨ i = 43 + 3 * w)) ∨ ∃ k, k < 8 ∧ i = 10 + 4 * k) → upd s j v i = s i := by
    intro i hi
    refine pk_un (fun e => ?_)
    subst e
    rcases hi with h | h | h | h | h | h | ⟨w, hw, h⟩ | ⟨k, hk, h⟩ <;> rcases hj with g | g | g | g | g | ⟨k', hk', g⟩ | ⟨w', hw', g⟩ <;> omega
  exact ⟨key 0 (by simp), key 1 (by simp), key 3 (by simp), key 4 (by simp), key 5 (by simp), fun i hi => key i (by simp [hi]), fun w hw => ⟨key _ (Or.inr (Or.inr (Or.inr (Or.inr (Or.inr (Or.inr (Or.inl ⟨w, hw, Or.inl rfl⟩))))))), key _ (Or.inr (Or.inr (Or.inr (Or.inr (Or.inr (Or.inr (Or.inl ⟨w, hw, Or.inr rfl⟩)))))))⟩, fun k hk => key _ (Or.inr (Or.inr (Or.inr (Or.inr (Or.inr (Or.inr (Or.inr ⟨k, hk, rfl⟩)))))))⟩
theorem Keep.gpi {s s' : Nat → Int32} (h : Keep s s') (g : PI s) : PI s' := by
  unfold PI np at g ⊢
  rw [h.1]
  exact g
theorem Keep.gnp {s s' : Nat → Int32} (h : Keep s s') : np s' = np s := by show ix (s' 0) = ix (s 0); rw [h.1]
theorem Keep.gnw {s s' : Nat → Int32} (h : Keep s s') : nw s' = nw s := by show ix (s' 3) = ix (s 3); rw [h.2.2.1]
theorem Keep.gnt {s s' : Nat → Int32} (h : Keep s s') : nt s' = nt s := by show ix (s' 1) = ix (s 1); rw [h.2.1]
theorem Keep.gwi {s s' : Nat → Int32} (h : Keep s s') (g : WI s) : WI s' := by
  unfold WI nw at g ⊢
  rw [h.2.2.1]
  exact g
theorem wfT_cong {s s' : Nat → Int32} {t : Nat} (h : ∀ j, 84 + 200 * t ≤ j → j < 284 + 200 * t → s' j = s j) (g : WfT s t) : WfT s' t := by
  have e84 := h (84 + 200 * t) (by omega) (by omega)
  have e86 := h (86 + 200 * t) (by omega) (by omega)
  have em : tMany s' t = tMany s t := by show ix (s' _) = ix (s _); rw [e86]
  obtain ⟨g1, g2, g3, g4, g5⟩ := g
  have ew : ∀ i, i < tMany s t → tWh s' t i = tWh s t i := fun i hi => h _ (by omega) (by omega)
  have ev : ∀ i, i < tMany s t → tVa s' t i = tVa s t i := fun i hi => h _ (by omega) (by omega)
  have eh : ∀ i, i ≤ tMany s t → hgS s' t i = hgS s t i := by
    intro i
    induction i with
    | zero => intro _; rfl
    | succ i ih => intro hi; simp only [hgS]; rw [ew i (by omega), ev i (by omega), ih (by omega)]
  refine ⟨by rw [e84]; exact g1, by rw [em, e86]; exact g2, by rw [em]; exact g3, by rw [em, eh _ (Nat.le_refl _)]; exact g4, fun i hi => ?_⟩
  rw [em] at hi
  rw [ew i hi, ev i hi, eh i (by omega), e84]
  exact g5 i hi
theorem Keep.gti {s s' : Nat → Int32} (h : Keep s s') (g : TI s) : TI s' := by
  obtain ⟨g1, g2, g3⟩ := g
  refine ⟨by rw [h.gnt, h.2.1]; exact g1, by rw [h.gnt]; exact g2, fun t ht => ?_⟩
  rw [h.gnt] at ht
  exact wfT_cong (fun j hj _ => h.2.2.2.2.2.1 j (by omega)) (g3 t ht)
theorem dr_keep (s : Nat → Int32) : Keep s (drS s) := Keep.up _ (by simp)
theorem wa_keep (s : Nat → Int32) {k w : Nat} (hk : k < 8) : Keep s (waS s k w) := by
  have k1 : ∀ v, Keep s (upd s (11 + 4 * k) v) := fun v => Keep.up v (Or.inr (Or.inr (Or.inr (Or.inr (Or.inr (Or.inl ⟨k, hk, Or.inl rfl⟩))))))
  unfold waS
  split
  · split
    · exact (k1 _).tr (Keep.up _ (by simp))
    · exact ((k1 _).tr (Keep.up _ (by simp))).tr ((Keep.up _ (Or.inr (Or.inr (Or.inr (Or.inr (Or.inr (Or.inl ⟨k, hk, Or.inr (Or.inr rfl)⟩))))))).tr (Keep.up _ (by simp)))
  · exact Keep.rf s
theorem fad_keep {k : Nat} (hk : k < 8) : ∀ (f left : Nat) (s : Nat → Int32), Keep s (fadS k f left s)
  | 0, _, s => Keep.rf s
  | f + 1, left, s => by
    simp only [fadS]
    split
    · exact Keep.rf s
    · split
      · exact ((Keep.up _ (Or.inr (Or.inr (Or.inr (Or.inr (Or.inr (Or.inl ⟨k, hk, Or.inr (Or.inr rfl)⟩))))))).tr (Keep.up _ (by simp))).tr (fad_keep hk f _ _)
      · exact fad_keep hk f _ _
theorem ag_keep (s : Nat → Int32) {k : Nat} (hk : k < 8) : Keep s (agS s k) := by
  unfold agS
  exact (Keep.up _ (Or.inr (Or.inr (Or.inr (Or.inr (Or.inr (Or.inl ⟨k, hk, Or.inr (Or.inl rfl)⟩))))))).tr (fad_keep hk _ _ _)
theorem wn_keep (s : Nat → Int32) {k : Nat} (hk : k < 8) : Keep s (wnS s k) := by
  unfold wnS
  split
  · exact dr_keep s
  · split
    · exact dr_keep s
    · exact ((dr_keep s).tr (dr_keep _)).tr (wa_keep _ hk)
theorem dv_is (s : Nat → Int32) : ∃ v, v < 2 ^ 24 ∧ dvS s = nI v := by
  have h := pk_ushr (s 9) 8 8 (by decide)
  have hb := (s 9).toBitVec.isLt
  refine ⟨(s 9).toBitVec.toNat / 2 ^ 8, by omega, ?_⟩
  apply Int32.toBitVec_inj.1
  apply BitVec.eq_of_toNat_eq
  rw [show (dvS s).toBitVec.toNat = _ from h, pk_tn (by omega)]
theorem irm_is {v n : Nat} (hv : v < 2 ^ 24) (h0 : 0 < n) (hn : n < 2 ^ 24) : irm (nI v) (nI n) = nI (v % n) := pk_rem (by omega) h0 (by omega)
theorem w_is {s : Nat → Int32} (hW : WI s) (h : ¬ s 3 ≤ 0) (s' : Nat → Int32) : ∃ w, w < nw s ∧ irm (dvS s') (s 3) = nI w := by
  have h14 := hW.2
  obtain ⟨v, hv, e⟩ := dv_is s'
  rw [hW.1, show (0 : Int32) = nI 0 from rfl, le_nI (by omega) (by omega)] at h
  refine ⟨v % nw s, Nat.mod_lt _ (by omega), ?_⟩
  rw [hW.1, e, irm_is hv (by omega) (by omega)]
theorem sl_keep {s : Nat → Int32} (hW : WI s) : Keep s (slS s) := by
  unfold slS
  split
  · exact dr_keep s
  · split
    · exact dr_keep s
    · next h =>
      obtain ⟨w, hw, e⟩ := w_is hW h (drS (drS s))
      have h14 := hW.2
      rw [e, ix_nI (by omega)]
      exact ((dr_keep s).tr (dr_keep _)).tr (Keep.up _ (Or.inr (Or.inr (Or.inr (Or.inr (Or.inr (Or.inr ⟨w, by omega, rfl⟩)))))))
theorem it_keep {f : Nat → (Nat → Int32) → Nat → Int32} (hf : ∀ k s, k < 8 → Keep s (f k s)) (s : Nat → Int32) : ∀ n, n ≤ 8 → Keep s (itN f n s)
  | 0, _ => Keep.rf s
  | n + 1, h => (it_keep hf s n (by omega)).tr (hf n _ (by omega))
theorem day_keep {s : Nat → Int32} (hP : PI s) (hW : WI s) : Keep s (dayS s) := by
  unfold dayS
  have h1 := it_keep (f := fun k s => wnS s k) (fun k s hk => wn_keep s hk) s (np s) hP.2
  have h2 := it_keep (f := fun k s => agS s k) (fun k s hk => ag_keep s hk) (itN (fun k s => wnS s k) (np s) s) (np s) hP.2
  have h12 := h1.tr h2
  exact (h12.tr (sl_keep (h12.gwi hW))).tr (Keep.up _ (by simp))
section
variable {l : Launch} {G : GT} {D : Nat} {M : Mem} {R : Option Value → Mem → Prop}
theorem sX8_goesOn (hD : 24 ≤ D) (hP : PI (M 101)) (hW : WI (M 101)) (hT : TI (M 101)) (hR : ∀ M', Ag [101, 115, 116] M M' → M' 101 = dayS (M 101) → R none M') : Tr l G D mX8_goesOn [.ref (G.1 100)] M R := by
  obtain ⟨d, rfl⟩ := dE (show 4 ≤ D by omega)
  have h8 := hP.2
  refine tX8_goesOn ?_
  -- the second walk: ages, then the slide
  have last : ∀ M', Ag [101, 115, 116] M M' → M' 101 = itN (fun k s => agS s k) (np (M 101)) (itN (fun k s => wnS s k) (np (M 101)) (M 101)) → At l G (d + 4) mX8_goesOn 60 [some (.ref (G.1 100)), some (.int (nI (np (M 101))))] [] M' R := by
    intro M' hA hs
    have hk : Keep (M 101) (M' 101) := by
      rw [hs]
      exact (it_keep (f := fun k s => wnS s k) (fun k s hk => wn_keep s hk) _ _ h8).tr (it_keep (f := fun k s => agS s k) (fun k s hk => ag_keep s hk) _ _ h8)
    have hP' := hk.gpi hP
    have hW' := hk.gwi hW
    have enp := hk.gnp
    have hfin : ∀ M'', Ag [101] M' M'' → M'' 101 = upd (slS (M' 101)) 2 (slS (M' 101) 2 + 1) → R none M'' := by
      intro M'' hA2 hs2
      refine hR M'' (hA.tr (hA2.sub (by decide))) ?_
      rw [hs2, hs]
      unfold dayS
      rfl
    have fin : ∀ x, slS (M' 101) = x → R none (ua M' 101 (upd x 2 (x 2 + 1))) := by
      intro x hx
      exact hfin _ (Ag.ua (Ag.rf _ _) (by decide) _) (by rw [ua_s, hx])
    clear hR hs hA hfin hk
    generalize np (M 101) = n at enp h8 ⊢
    refine bX8_goesOn_60 ⟨fun _ => ⟨fun h => ?_, fun h => ⟨fun h3 => ?_, fun h3 => ?_⟩⟩, fun h => absurd ?_ h⟩
    · simp (disch := omega) only [forall_eq, ua_s, ua_ua, dr_f, dv_f, irm_f, dr_n] at h ⊢
      have := fin (drS (M' 101)) (by unfold slS; rw [if_pos h])
      simp (disch := omega) only [dr_n] at this
      exact this
    · simp (disch := omega) only [forall_eq, ua_s, ua_ua, dr_f, dv_f, irm_f, dr_n] at h h3 ⊢
      have := fin (drS (M' 101)) (by unfold slS; rw [if_neg h, if_pos h3])
      simp (disch := omega) only [dr_n] at this
      exact this
    · simp (disch := omega) only [forall_eq, ua_s, ua_ua, dr_f, dv_f, irm_f, dr_n] at h h3 ⊢
      obtain ⟨w, hw, ew⟩ := w_is hW' h3 (drS (drS (M' 101)))
      have h14 := hW'.2
      rw [ew]
      have hne : ¬ M' 101 3 = 0 := fun q => h3 (by rw [q]; decide)
      refine ⟨hne, vw2 (by omega), vw2 (by omega), ?_⟩
      have := fin (upd (drS (drS (M' 101))) (44 + 3 * w) (1 - M' 101 (44 + 3 * w))) (by unfold slS; rw [if_neg h, if_neg h3, ew, ix_nI (by omega)])
      simp (disch := omega) only [f2, pk_un, dr_n] at this ⊢
      exact this
    · rw [hP'.1, enp, le_nI (by omega) (by omega)]
      exact Nat.le_refl _
  have second : ∀ k, k ≤ np (M 101) → ∀ M', Ag [101, 115, 116] M M' → M' 101 = itN (fun k s => agS s k) k (itN (fun k s => wnS s k) (np (M 101)) (M 101)) → At l G (d + 4) mX8_goesOn 60 [some (.ref (G.1 100)), some (.int (nI k))] [] M' R := by
    refine upL (fun k => ∀ M', Ag [101, 115, 116] M M' → M' 101 = itN (fun k s => agS s k) k (itN (fun k s => wnS s k) (np (M 101)) (M 101)) → At l G (d + 4) mX8_goesOn 60 [some (.ref (G.1 100)), some (.int (nI k))] [] M' R) _ last ?_
    clear last
    intro k hk ih M' hA hs
    have hkp : Keep (M 101) (M' 101) := by
      rw [hs]
      exact (it_keep (f := fun k s => wnS s k) (fun k s hk => wn_keep s hk) _ _ h8).tr (it_keep (f := fun k s => agS s k) (fun k s hk => ag_keep s hk) _ _ (by omega))
    have hP' := hkp.gpi hP
    refine bX8_goesOn_60 ⟨fun h => absurd h ?_, fun _ => ?_⟩
    · rw [hP'.1, hkp.gnp, le_nI (by omega) (by omega)]
      omega
    · refine sX8_ages (by omega) (by omega) (kV_i (bX8_goesOn_75 ?_))
      rw [p1]
      exact ih _ (hA.ua (by decide) _) (by rw [ua_s, hs, it_s])
  have first : ∀ k, k ≤ np (M 101) → ∀ M', Ag [101, 115, 116] M M' → M' 101 = itN (fun k s => wnS s k) k (M 101) → At l G (d + 4) mX8_goesOn 2 [some (.ref (G.1 100)), some (.int (nI k))] [] M' R := by
    refine upL (fun k => ∀ M', Ag [101, 115, 116] M M' → M' 101 = itN (fun k s => wnS s k) k (M 101) → At l G (d + 4) mX8_goesOn 2 [some (.ref (G.1 100)), some (.int (nI k))] [] M' R) _ ?_ ?_
    · intro M' hA hs
      have hkp : Keep (M 101) (M' 101) := by
        rw [hs]
        exact it_keep (f := fun k s => wnS s k) (fun k s hk => wn_keep s hk) _ _ h8
      have hP' := hkp.gpi hP
      refine bX8_goesOn_2 ⟨fun _ => ?_, fun h => absurd ?_ h⟩
      · exact second 0 (Nat.zero_le _) M' hA hs
      · rw [hP'.1, hkp.gnp, le_nI (by omega) (by omega)]
        exact Nat.le_refl _
    · clear last second
      intro k hk ih M' hA hs
      have hkp : Keep (M 101) (M' 101) := by
        rw [hs]
        exact it_keep (f := fun k s => wnS s k) (fun k s hk => wn_keep s hk) _ _ (by omega)
      have hP' := hkp.gpi hP
      have hW' := hkp.gwi hW
      have hT' := hkp.gti hT
      have h14 := hW'.2
      have step : ∀ M'', Ag [101, 115, 116] M' M'' → M'' 101 = wnS (M' 101) k → At l G (d + 4) mX8_goesOn 2 [some (.ref (G.1 100)), some (.int (nI k + 1))] [] M'' R := by
        intro M'' hA2 hs2
        rw [p1]
        exact ih M'' (hA.tr hA2) (by rw [hs2, hs, it_s])
      refine bX8_goesOn_2 ⟨fun h => absurd h ?_, fun _ => ?_⟩
      · rw [hP'.1, hkp.gnp, le_nI (by omega) (by omega)]
        omega
      · clear ih hs hA hR
        simp (disch := omega) only [um_dr, ua_s, dr_f, dv_f, irm_f]
        refine sX8_urge (by omega) (by omega) (by rw [ua_s]; exact (dr_keep _).gti hT') ?_
        intro M2 hA2
        have e2 : M2 101 = drS (M' 101) := (hA2 101 (by decide)).trans (ua_s _ _ _)
        have hA3 : Ag [101, 115, 116] M' M2 := Ag.tr (Ag.ua (Ag.rf _ _) (by decide) _) (hA2.sub (by decide))
        rw [ua_s]
        refine kI_i (bX8_goesOn_24 ⟨fun h => ?_, fun h => ⟨fun h3 => ?_, fun h3 => ?_⟩⟩)
        · exact step M2 hA3 (by rw [e2]; unfold wnS; rw [if_pos h])
        · rw [e2, dr_n _ (by decide)] at h3
          exact step M2 hA3 (by rw [e2]; unfold wnS; rw [if_neg h, if_pos h3])
        · rw [e2, dr_n _ (by decide)] at h3
          have e4 : ua M2 101 (drS (drS (M' 101))) 101 = drS (drS (M' 101)) := ua_s _ _ _
          have e5 : um M2 101 9 (M2 101 9 * 1103515245 + 12345) = ua M2 101 (drS (drS (M' 101))) := by rw [um_dr, e2]
          rw [e5]
          simp (disch := omega) only [ua_s, dv_f, irm_f, dr_n]
          obtain ⟨w, hw, ew⟩ := w_is hW' h3 (drS (drS (M' 101)))
          rw [ew]
          refine ⟨fun q => h3 (by rw [q]; decide), ?_⟩
          have hk2 : Keep (M' 101) (drS (drS (M' 101))) := (dr_keep _).tr (dr_keep _)
          refine sX8_walks (by omega) (by omega) (by omega) (by rw [e4]; exact hk2.gpi hP') (by rw [e4]; exact hk2.gwi hW') (kV_i (bX8_goesOn_52 (step _ ?_ ?_)))
          · exact (Ag.ua (Ag.ua hA3 (by decide) _) (by decide) _)
          · rw [ua_s, e4]
            unfold wnS
            rw [if_neg h, if_neg h3, ew, ix_nI (by omega)]
  exact first 0 (Nat.zero_le _) M (Ag.rf _ M) rfl
def dysS : Nat → (Nat → Int32) → Nat → Int32
  | 0, s => s
  | n + 1, s => dayS (dysS n s)
theorem dys_s (n : Nat) (s : Nat → Int32) : dysS (n + 1) s = dayS (dysS n s) := rfl
theorem dys_keep {s : Nat → Int32} (hP : PI s) (hW : WI s) : ∀ n, Keep s (dysS n s)
  | 0 => Keep.rf s
  | n + 1 => by
    have h := dys_keep hP hW n
    exact h.tr (day_keep (h.gpi hP) (h.gwi hW))
theorem sX8_goesOnMany {n : Nat} (hD : 28 ≤ D) (hn : n < 2 ^ 30) (hP : PI (M 101)) (hW : WI (M 101)) (hT : TI (M 101)) (hR : ∀ M', Ag [101, 115, 116] M M' → M' 101 = dysS n (M 101) → R none M') : Tr l G D mX8_goesOnMany [.ref (G.1 100), .int (nI n)] M R := by
  obtain ⟨d, rfl⟩ := dE (show 4 ≤ D by omega)
  refine tX8_goesOnMany ?_
  have loop : ∀ k, k ≤ n → ∀ M', Ag [101, 115, 116] M M' → M' 101 = dysS k (M 101) → At l G (d + 4) mX8_goesOnMany 2 [some (.ref (G.1 100)), some (.int (nI n)), some (.int (nI k))] [] M' R := by
    refine upL (fun k => ∀ M', Ag [101, 115, 116] M M' → M' 101 = dysS k (M 101) → At l G (d + 4) mX8_goesOnMany 2 [some (.ref (G.1 100)), some (.int (nI n)), some (.int (nI k))] [] M' R) n ?_ ?_
    · intro M' hA hs
      exact bX8_goesOnMany_2 ⟨fun _ => hR M' hA hs, fun h => absurd (Int32.le_refl _) h⟩
    · intro k hk ih M' hA hs
      have hkp : Keep (M 101) (M' 101) := by rw [hs]; exact dys_keep hP hW k
      refine bX8_goesOnMany_2 ⟨fun h => absurd h (by rw [le_nI (by omega) (by omega)]; omega), fun _ => ?_⟩
      refine sX8_goesOn (by omega) (hkp.gpi hP) (hkp.gwi hW) (hkp.gti hT) ?_
      intro M'' hA2 hs2
      refine kV_i (bX8_goesOnMany_11 ?_)
      rw [p1]
      exact ih M'' (hA.tr hA2) (by rw [hs2, hs, dys_s])
  exact loop 0 (Nat.zero_le _) M (Ag.rf _ M) rfl
end
