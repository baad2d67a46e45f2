-- a day, over the row s
theorem ua_ua (M : Mem) (k : Nat) (f g : Nat → Int32) : ua (ua M k f) k g = ua M k g := by
  funext a
  unfold ua
  split <;> rfl
theorem ua_self (M : Mem) (k : Nat) : ua M k (M k) = M := by
  funext a
  unfold ua
  split
  · next h => rw [h]
  · rfl
def irm (x y : Int32) : Int32 := x - x / y * y
theorem irm_f (x y : Int32) : x - x / y * y = irm x y := rfl
def drS (s : Nat → Int32) : Nat → Int32 := upd s 9 (s 9 * 1103515245 + 12345)
theorem dr_f (s : Nat → Int32) : upd s 9 (s 9 * 1103515245 + 12345) = drS s := rfl
theorem dr_n (s : Nat → Int32) {j : Nat} (h : j ≠ 9) : drS s j = s j := pk_un h
def dvS (s : Nat → Int32) : Int32 := ((s 9).toUInt32 >>> ((8 : Int32).toUInt32 &&& Int32.toUInt32 31)).toInt32
theorem dv_f (s : Nat → Int32) : ((s 9).toUInt32 >>> ((8 : Int32).toUInt32 &&& Int32.toUInt32 31)).toInt32 = dvS s := rfl
def waS (s : Nat → Int32) (k w : Nat) : Nat → Int32 :=
  if (tch s (pl s k) w = true ∧ sd s w = 1) ∧ irS s (thS s (pl s k)) w (pl s k) (np s) = true then
    if kd s k = 2 ∨ kd s k = 4 ∨ bt (sk s k) w = true then upd (upd s (11 + 4 * k) (if fr s w = pl s k then tt s w else fr s w)) 6 (s 6 + 1)
    else upd (upd (upd (upd s (11 + 4 * k) (if fr s w = pl s k then tt s w else fr s w)) 6 (s 6 + 1)) (13 + 4 * k) (sk s k ||| ((1 : Int32) <<< (nI w &&& 31)))) 7 (s 7 + 1)
  else s
def fadS (k : Nat) : Nat → Nat → (Nat → Int32) → (Nat → Int32)
  | 0, _, s => s
  | f + 1, left, s => if left = 0 then s else
      if bt (sk s k) (14 - (f + 1)) then fadS k f (left - 1) (upd (upd s (13 + 4 * k) (sk s k &&& ((1 : Int32) <<< (nI (14 - (f + 1)) &&& 31) ^^^ (-1)))) 8 (s 8 + 1))
      else fadS k f left s
def losN (kind : Int32) : Nat := if kind = 1 then 0 else if kind = 3 then 2 else 1
def agS (s : Nat → Int32) (k : Nat) : Nat → Int32 :=
  let s1 := upd s (12 + 4 * k) (if 0 ≤ ag s k + 1 then (if ag s k + 1 ≤ 99 then ag s k + 1 else 99) else 0)
  fadS k 14 (if irm (s1 (12 + 4 * k)) 10 = 0 then losN (kd s k) else 0) s1
section
variable {l : Launch} {G : GT} {D : Nat} {M : Mem} {R : Option Value → Mem → Prop}
theorem sX8_known (hD : 8 ≤ D) (hP : PI (M 101)) (hb : ix (brS (M 101) (mk (np (M 101)))) < 2 ^ 14 ∧ brS (M 101) (mk (np (M 101))) = nI (ix (brS (M 101) (mk (np (M 101)))))) (hR : R (some (.int (pcI (brS (M 101) (mk (np (M 101))))))) M) : Tr l G D mX8_known [.ref (G.1 100)] M R := by
  obtain ⟨d, rfl⟩ := dE (show 4 ≤ D by omega)
  refine tX8_known ?_
  rw [hP.1]
  refine sX8_borne (by omega) hP (kI_i (bX8_known_8 ?_))
  rw [hb.2]
  exact sX8_bits (by omega) hb.1 (kI_i (bX8_known_11 hR))
theorem sX8_walks {k w : Nat} (hD : 16 ≤ D) (hk : k < 8) (hw : w < 14) (hP : PI (M 101)) (hW : WI (M 101)) (hR : R none (ua M 101 (waS (M 101) k w))) : Tr l G D mX8_walks [.ref (G.1 100), .int (nI k), .int (nI w)] M R := by
  obtain ⟨d, rfl⟩ := dE (show 4 ≤ D by omega)
  have vv1 := v1 hk
  have vv0 := v0 hk
  have vv3 := v3 hk
  have ww0 := vw0 hw
  have ww1 := vw1 hw
  have ww2 := vw2 hw
  have stay : ∀ (h : ¬ ((tch (M 101) (pl (M 101) k) w = true ∧ sd (M 101) w = 1) ∧ irS (M 101) (thS (M 101) (pl (M 101) k)) w (pl (M 101) k) (np (M 101)) = true)), R none M := by
    intro h
    unfold waS at hR
    rw [if_neg h, ua_self] at hR
    exact hR
  have go : (tch (M 101) (pl (M 101) k) w = true ∧ sd (M 101) w = 1) → At l G (d + 4) mX8_walks 30 [some (.ref (G.1 100)), some (.int (nI k)), some (.int (nI w)), some (.int (pl (M 101) k))] [.int (thS (M 101) (pl (M 101) k)), .ref (G.1 100)] M R := by
    intro ht
    refine bX8_walks_30 ?_
    refine sX8_isRead (by omega) (by omega) hP hW (kI_i (bX8_walks_35 ?_))
    simp (disch := omega) only [forall_eq, ua_s, ua_ua, pk_us, pk_un, e0, e1, e3, f0, f1, f2, vv0, vv1, vv3, ww0, ww1, ww2, true_and]
    by_cases hir : irS (M 101) (thS (M 101) (pl (M 101) k)) w (pl (M 101) k) (np (M 101)) = true
    · unfold waS at hR
      rw [if_pos ⟨ht, hir⟩] at hR
      rw [if_pos hir]
      refine ⟨fun h => absurd h (by decide), fun _ => ⟨fun h1 => ?_, fun h1 => ?_⟩⟩
      · rw [if_pos h1] at hR
        refine ⟨fun h2 => ?_, fun h2 => ⟨fun h3 => ?_, fun h3 => ⟨fun h4 => ?_, fun h4 => ?_⟩⟩⟩
        · rw [if_pos (Or.inl h2)] at hR; exact hR
        · rw [if_pos (Or.inr (Or.inl h3))] at hR; exact hR
        · rw [has1 _ (by omega)] at h4
          rw [if_pos (Or.inr (Or.inr h4))] at hR; exact hR
        · rw [has1 _ (by omega)] at h4
          rw [if_neg (fun q => q.elim h2 (fun q => q.elim h3 h4))] at hR; exact hR
      · rw [if_neg h1] at hR
        refine ⟨fun h2 => ?_, fun h2 => ⟨fun h3 => ?_, fun h3 => ⟨fun h4 => ?_, fun h4 => ?_⟩⟩⟩
        · rw [if_pos (Or.inl h2)] at hR; exact hR
        · rw [if_pos (Or.inr (Or.inl h3))] at hR; exact hR
        · rw [has1 _ (by omega)] at h4
          rw [if_pos (Or.inr (Or.inr h4))] at hR; exact hR
        · rw [has1 _ (by omega)] at h4
          rw [if_neg (fun q => q.elim h2 (fun q => q.elim h3 h4))] at hR; exact hR
    · rw [if_neg hir]
      exact ⟨fun _ => stay (fun q => hir q.2), fun h => absurd rfl h⟩
  refine tX8_walks ?_
  simp (disch := omega) only [e1, f0, f1, f2, vv1, ww0, ww1, ww2, true_and]
  refine ⟨fun h1 => ⟨fun h2 => ?_, fun h2 => stay (fun q => h2 q.1.2)⟩, fun h1 => ⟨fun h2 => ⟨fun h3 => ?_, fun h3 => stay (fun q => h3 q.1.2)⟩, fun h2 => stay (fun q => ?_)⟩⟩
  · exact sX8_those (by omega) hP (kI_i (go ⟨by simp [tch, h1], h2⟩))
  · exact sX8_those (by omega) hP (kI_i (go ⟨by simp [tch, h2], h3⟩))
  · have := q.1.1
    simp [tch, h1, h2] at this
theorem sX8_ages {k : Nat} (hD : 4 ≤ D) (hk : k < 8) (hR : R none (ua M 101 (agS (M 101) k))) : Tr l G D mX8_ages [.ref (G.1 100), .int (nI k)] M R := by
  obtain ⟨d, rfl⟩ := dE hD
  have vv0 := v0 hk
  have vv2 := v2 hk
  have vv3 := v3 hk
  have loop : ∀ f left (M : Mem), f ≤ 14 → left ≤ 2 → R none (ua M 101 (fadS k f left (M 101))) → At l G (d + 4) mX8_ages 43 [some (.ref (G.1 100)), some (.int (nI k)), some (.int (nI left)), some (.int (nI (14 - f)))] [] M R := by
    intro f
    induction f with
    | zero =>
      intro left M _ _ hR
      simp only [fadS, ua_self] at hR
      exact bX8_ages_43 ⟨fun _ => hR, fun h => absurd (by decide) h⟩
    | succ f ih =>
      intro left M hf hl hR
      refine bX8_ages_43 ⟨fun h => absurd h ?_, fun _ => ⟨fun h => ?_, fun h => ?_⟩⟩
      · rw [show (14 : Int32) = nI 14 from rfl, le_nI (by omega) (by omega)]
        omega
      · rw [show (0 : Int32) = nI 0 from rfl, le_nI (by omega) (by omega)] at h
        simp only [fadS] at hR
        rw [if_pos (by omega), ua_self] at hR
        exact hR
      · rw [show (0 : Int32) = nI 0 from rfl, le_nI (by omega) (by omega)] at h
        simp only [fadS] at hR
        rw [if_neg (by omega)] at hR
        simp (disch := omega) only [forall_eq, ua_s, ua_ua, pk_us, pk_un, e3, vv3, true_and]
        refine ⟨fun h1 => ?_, fun h1 => ?_⟩
        · rw [has1 _ (by omega)] at h1
          rw [if_pos h1] at hR
          refine bX8_ages_98 ?_
          rw [p1, show 14 - (f + 1) + 1 = 14 - f by omega, show nI left + (-1) = nI (left - 1) by rw [show left = (left - 1) + 1 by omega, pk_m1]; rfl]
          refine ih (left - 1) _ (by omega) (by omega) ?_
          rw [ua_s, ua_ua]
          exact hR
        · rw [has1 _ (by omega)] at h1
          rw [if_neg h1] at hR
          refine bX8_ages_98 ?_
          rw [p1, show 14 - (f + 1) + 1 = 14 - f by omega]
          exact ih left _ (by omega) hl hR
  have key : ∀ (a : Int32), (if 0 ≤ ag (M 101) k + 1 then (if ag (M 101) k + 1 ≤ 99 then ag (M 101) k + 1 else 99) else 0) = a → ∀ t, (if irm a 10 = 0 then losN (kd (M 101) k) else 0) = t → t ≤ 2 → At l G (d + 4) mX8_ages 40 [some (.ref (G.1 100)), some (.int (nI k)), none, none] [.int (nI t)] (ua M 101 (upd (M 101) (12 + 4 * k) a)) R := by
    intro a ha t ht h2
    refine bX8_ages_40 (loop 14 t _ (by decide) h2 ?_)
    unfold agS at hR
    simp only [ha, pk_us] at hR
    rw [ht] at hR
    rw [ua_s, ua_ua]
    exact hR
  have fin : ∀ (a : Int32), (if 0 ≤ ag (M 101) k + 1 then (if ag (M 101) k + 1 ≤ 99 then ag (M 101) k + 1 else 99) else 0) = a → (irm a 10 = 0 → (kd (M 101) k = 1 → At l G (d + 4) mX8_ages 40 [some (.ref (G.1 100)), some (.int (nI k)), none, none] [.int 0] (ua M 101 (upd (M 101) (12 + 4 * k) a)) R) ∧ (¬ kd (M 101) k = 1 → (kd (M 101) k = 3 → At l G (d + 4) mX8_ages 40 [some (.ref (G.1 100)), some (.int (nI k)), none, none] [.int 2] (ua M 101 (upd (M 101) (12 + 4 * k) a)) R) ∧ (¬ kd (M 101) k = 3 → At l G (d + 4) mX8_ages 40 [some (.ref (G.1 100)), some (.int (nI k)), none, none] [.int 1] (ua M 101 (upd (M 101) (12 + 4 * k) a)) R))) ∧ (¬ irm a 10 = 0 → At l G (d + 4) mX8_ages 40 [some (.ref (G.1 100)), some (.int (nI k)), none, none] [.int 0] (ua M 101 (upd (M 101) (12 + 4 * k) a)) R) := by
    intro a ha
    refine ⟨fun h => ⟨fun h1 => key a ha 0 (by rw [if_pos h]; simp [losN, h1]) (by decide), fun h1 => ⟨fun h3 => key a ha 2 (by rw [if_pos h]; simp [losN, h3]) (by decide), fun h3 => key a ha 1 (by rw [if_pos h]; simp [losN, h1, h3]) (by decide)⟩⟩, fun h => key a ha 0 (by rw [if_neg h]) (by decide)⟩
  refine tX8_ages ?_
  simp (disch := omega) only [forall_eq, ua_s, ua_ua, pk_us, pk_un, e0, e2, vv0, vv2, true_and]
  refine ⟨fun h1 => ⟨fun h2 => ?_, fun h2 => ?_⟩, fun h1 => ?_⟩
  · exact fin _ (by rw [if_pos h1, if_pos h2])
  · exact fin _ (by rw [if_pos h1, if_neg h2])
  · exact fin _ (by rw [if_neg h1])
end
