section
variable {l : Launch} {G : GT} {D : Nat} {M : Mem} {R : Option Value → Mem → Prop} {b : Nat} {s : Nat → Int32}
theorem dv_X {M : Mem} {b : Nat} {s : Nat → Int32} (h : M b 17 = s 9) : ((M b 17).toUInt32 >>> ((8 : Int32).toUInt32 &&& Int32.toUInt32 31)).toInt32 = dvS s := by rw [h]; rfl
theorem XS.dr (hb : IsLd b) (hX : XS M b s) : XS (um M b 17 (M b 17 * 1103515245 + 12345)) b (drS s) := by
  have e9 : M b 17 = s 9 := hX.1.1.2.2.2.2.2.2.2.2.2.1
  refine hX.mv hb (Ag.ua (Ag.rf _ _) (by simp [ldC]) _) (dr_keep s) ?_ (inv_dr hX.2.1)
  rw [e9]
  exact LR_17 hX.2.1.2.1 hX.1 _
theorem XS.st {M' : Mem} (hb : IsLd b) (hX : XS M b s) (hA : Ag [6] M M') : XS M' b s := by
  have h30 : 30 ≤ b := by unfold IsLd at hb; omega
  refine hX.mv hb (hA.sub (by simp [ldC])) (Keep.rf s) (hX.1.of (fun j hj => hA _ ?_)) hX.2.1
  simp only [List.mem_cons, List.not_mem_nil, or_false]
  omega
theorem sX1_wander {k : Nat} (hb : IsLd b) (hD : 20 ≤ D) (hX : XS M b s) (hk : k < np s) (hR : ∀ M', Ag (ldC b) M M' → LR M' b (wnS s k) → R none M') : Tr l G D mX1_wander [.ref (G.1 b), .int (nI k)] M R := by
  obtain ⟨d, rfl⟩ := dE (show 4 ≤ D by omega)
  have h8 := hX.2.1.1.2
  have hv8 : vp_in (nI k) 8 := vpn (by omega) (by decide)
  refine tX1_wander hb ?_
  have hX1 := hX.dr hb
  have hA1 : Ag (ldC b) M (um M b 17 (M b 17 * 1103515245 + 12345)) := Ag.ua (Ag.rf _ _) (by simp [ldC]) _
  generalize um M b 17 (M b 17 * 1103515245 + 12345) = M1 at hX1 hA1 ⊢
  rw [dv_X hX1.1.1.2.2.2.2.2.2.2.2.2.1]
  simp only [irm_f]
  refine sX1_urgeOf hb (by omega) hX1 (by omega) (fun M2 hA2 => kI_i (bX1_wander_14 hb ⟨fun h => ?_, fun h => ⟨fun h3 => ?_, fun h3 => ?_⟩⟩))
  · refine hR M2 (hA1.tr (hA2.sub (by simp [ldC]))) ?_
    unfold wnS
    rw [if_pos h]
    exact (hX1.st hb hA2).1
  · have hX2 := hX1.st hb hA2
    rw [hX2.1.1.2.1, dr_n _ (by decide)] at h3
    refine hR M2 (hA1.tr (hA2.sub (by simp [ldC]))) ?_
    unfold wnS
    rw [if_neg h, if_pos (by rw [h3]; decide)]
    exact hX2.1
  · have hX2 := hX1.st hb hA2
    have hX3 := hX2.dr hb
    have hA3 : Ag (ldC b) M (um M2 b 17 (M2 b 17 * 1103515245 + 12345)) := (hA1.tr (hA2.sub (by simp [ldC]))).ua (by simp [ldC]) _
    generalize um M2 b 17 (M2 b 17 * 1103515245 + 12345) = M3 at hX3 hA3 ⊢
    rw [hX2.1.1.2.1, dr_n _ (by decide)] at h3
    have h14 := hX.2.1.2.1.2
    have h3' : ¬ s 3 ≤ 0 := by
      rw [hX.2.1.2.1.1] at h3 ⊢
      rw [show (0 : Int32) = nI 0 from rfl, nI_eq (by omega) (by omega)] at h3
      rw [show (0 : Int32) = nI 0 from rfl, le_nI (by omega) (by omega)]
      omega
    obtain ⟨w, hw, ew⟩ := w_is hX.2.1.2.1 h3' (drS (drS s))
    have hwn : wnS s k = waS (drS (drS s)) k w := by unfold wnS; rw [if_neg h, if_neg h3', ew, ix_nI (by omega)]
    rw [hwn] at hR
    have e36 : M3 b 6 = s 3 := by rw [hX3.1.1.2.1, dr_n _ (by decide), dr_n _ (by decide)]
    have hk2 : Keep s (drS (drS s)) := (dr_keep s).tr (dr_keep _)
    rw [dv_X hX3.1.1.2.2.2.2.2.2.2.2.2.1, e36]
    simp only [irm_f]
    rw [ew]
    -- from here over s2, the row behind two draws
    have hnp : k < np (drS (drS s)) := by rw [hk2.gnp]; exact hk
    have hnw : w < nw (drS (drS s)) := by rw [hk2.gnw]; exact hw
    clear hwn h3' h hX2 hX1 hA1 hA2 ew hk2
    generalize drS (drS s) = s2 at hX3 hR hnp hnw
    have hP2 := hX3.2.1.1
    have hW2 := hX3.2.1.2.1
    obtain ⟨⟨a1, a2, a3, a4, a5, a6, a7, a8, a9, a10, a11⟩, g1, g2, g3, g4, g5, g6, g7, g8⟩ := hX3.1
    obtain ⟨⟨kn, hkn, ek⟩, ⟨a, ha, ea⟩, -, -⟩ := hX3.2.1.2.2.2.1 k hnp
    have h82 := hP2.2
    have h142 := hW2.2
    rw [ix_nI (show k < 2 ^ 31 by omega), g2 k (by omega), ea, ix_nI (show a < 2 ^ 31 by omega), g7 a ha, a3]
    refine ⟨h3, hv8, vpn ha (by decide), sX1_readByThoseIn hb (by omega) hX3.1 hP2 ha (kI_i (bX1_wander_61 hb ⟨fun h => ?_, fun h => ⟨vpn (by omega) (by decide), ?_⟩⟩))⟩
    · rw [has0 _ (by omega)] at h
      refine hR M3 hA3 ?_
      have : waS s2 k w = s2 := by
        unfold waS
        rw [if_neg]
        rintro ⟨⟨c1, c2⟩, c3⟩
        apply h
        rw [b_and, b_and, Bool.and_eq_true, Bool.and_eq_true]
        unfold eIn stS
        rw [bt_bs _ _ _ (by omega), bt_bs _ _ _ (by omega), rb_ir h82, ← ea]
        exact ⟨⟨by simp [hnw, c1], by simp [hnw, c2]⟩, c3⟩
      rw [this]
      exact hX3.1
    · rw [has0 _ (by omega), Decidable.not_not, b_and, b_and, Bool.and_eq_true, Bool.and_eq_true] at h
      unfold eIn stS at h
      rw [bt_bs _ _ _ (by omega), bt_bs _ _ _ (by omega), rb_ir h82, ← ea] at h
      have hc : (tch s2 (pl s2 k) w = true ∧ sd s2 w = 1) ∧ irS s2 (thS s2 (pl s2 k)) w (pl s2 k) (np s2) = true := by
        obtain ⟨⟨c1, c2⟩, c3⟩ := h
        simp only [Bool.and_eq_true, decide_eq_true_eq] at c1 c2
        exact ⟨⟨c1.2, c2.2⟩, c3⟩
      unfold waS at hR
      rw [if_pos hc] at hR
      rw [ix_nI (show w < 2 ^ 31 by omega), ix_nI (show k < 2 ^ 31 by omega), g5 w (by omega), g6 w (by omega), ← ea]
      have hvw : vp_in (nI w) 14 := vpn (by omega) (by decide)
      -- both ways on, with the other end x
      have fin : ∀ (x : Int32), x = (if fr s2 w = pl s2 k then tt s2 w else fr s2 w) → ∀ M6 : Mem, M6 = um (um M3 (b + 2) k x) b 13 ((um M3 (b + 2) k x) b 13 + 1) → vp_in (nI k) 8 ∧ Tr l G (d + 3) mX0_learns [.int (M6 (b + 1) k)] M6 (kI fun q M' => At l G (d + 4) mX1_wander 102 [some (.ref (G.1 b)), some (.int (nI k)), none, some (.int (nI w)), none] [.int q] M' R) := by
        intro x hx M6 hM6
        have e13 : (um M3 (b + 2) k x) b 13 = s2 6 := by rw [um_n _ _ _ (by omega)]; exact a6
        have hL4 := LR_pl hW2 hX3.1 (i := k) (by omega) x
        have hk4 : Keep s2 (upd s2 (11 + 4 * k) x) := Keep.up _ (Or.inr (Or.inr (Or.inr (Or.inr (Or.inr (Or.inl ⟨k, by omega, Or.inl rfl⟩))))))
        have hL5 : LR M6 b (upd (upd s2 (11 + 4 * k) x) 6 (s2 6 + 1)) := by
          rw [hM6, e13]
          exact LR_13 (hk4.gwi hW2) hL4 _
        have hA6 : Ag (ldC b) M M6 := by
          rw [hM6]
          exact (hA3.ua (by simp [ldC]) _).ua (by simp [ldC]) _
        have hk5 : Keep s2 (upd (upd s2 (11 + 4 * k) x) 6 (s2 6 + 1)) := hk4.tr (Keep.up _ (by simp))
        rw [← hx] at hR
        have ekd : M6 (b + 1) k = nI kn := by
          rw [hL5.2.1 k (by omega), hk5.2.2.2.2.2.2.2 k (by omega), ek]
        have esk : M6 (b + 4) k = sk s2 k := by
          rw [hL5.2.2.2.2.1 k (by omega)]
          show upd _ _ _ (13 + 4 * k) = _
          rw [pk_un (by omega), pk_un (by omega)]
        refine ⟨hv8, ?_⟩
        rw [ekd]
        refine sX0_learns (by omega) hkn (kI_i (bX1_wander_102 hb ⟨fun q => ?_, fun q => ⟨hv8, ?_⟩⟩))
        · by_cases h24 : kn = 2 ∨ kn = 4
          · rw [if_pos (by rcases h24 with h | h <;> rw [h] at ek; exact Or.inl ek; exact Or.inr (Or.inl ek))] at hR
            exact hR M6 hA6 hL5
          · rw [if_neg h24] at q
            exact absurd q (by decide)
        · have h24 : ¬ (kn = 2 ∨ kn = 4) := by
            intro h24
            rw [if_pos h24] at q
            exact q rfl
          have n2 : ¬ kd s2 k = 2 := by rw [ek, show (2 : Int32) = nI 2 from rfl, nI_eq (by omega) (by omega)]; omega
          have n4 : ¬ kd s2 k = 4 := by rw [ek, show (4 : Int32) = nI 4 from rfl, nI_eq (by omega) (by omega)]; omega
          rw [ix_nI (show k < 2 ^ 31 by omega), esk]
          refine ⟨fun q2 => ⟨hv8, hv8, ?_⟩, fun q2 => ?_⟩
          · rw [has0 _ (by omega)] at q2
            rw [if_neg (fun z => z.elim n2 (fun z => z.elim n4 q2))] at hR
            intro M7 hM7
            have hL7 : LR M7 b (upd (upd (upd s2 (11 + 4 * k) x) 6 (s2 6 + 1)) (13 + 4 * k) (sk s2 k ||| ((1 : Int32) <<< (nI w &&& 31)))) := by
              rw [hM7]
              exact LR_sk (hk5.gwi hW2) hL5 (by omega) _
            have e14 : M7 b 14 = s2 7 := by
              rw [hM7, um_n _ _ _ (by omega), hL5.1.2.2.2.2.2.2.1, pk_un (by omega), pk_un (by omega)]
            have hk7 : Keep s2 (upd (upd (upd s2 (11 + 4 * k) x) 6 (s2 6 + 1)) (13 + 4 * k) (sk s2 k ||| ((1 : Int32) <<< (nI w &&& 31)))) := hk5.tr (Keep.up _ (Or.inr (Or.inr (Or.inr (Or.inr (Or.inr (Or.inl ⟨k, by omega, Or.inr (Or.inr rfl)⟩)))))))
            refine hR _ ?_ ?_
            · rw [hM7]
              exact ((hA6.ua (by simp [ldC]) _).ua (by simp [ldC]) _)
            · rw [e14]
              exact LR_14 (hk7.gwi hW2) hL7 _
          · rw [has0 _ (by omega), Decidable.not_not] at q2
            rw [if_pos (Or.inr (Or.inr q2))] at hR
            exact hR M6 hA6 hL5
      refine ⟨fun q => ⟨hvw, hv8, fun M10 hM10 => ?_⟩, fun q => ⟨hvw, hv8, fun M10 hM10 => ?_⟩⟩
      · exact fin (tt s2 w) (by rw [if_pos q]) M10 hM10
      · exact fin (fr s2 w) (by rw [if_neg q]) M10 hM10
end
