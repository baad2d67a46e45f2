-- the class's Land over the row s
def stS (s : Nat → Int32) : Int32 := bs (fun w => decide (sd s w = 1)) (nw s)
def onS (v : Int32) : Int32 := if v < 0 then -1000000005 else v
def LR (M : Mem) (b : Nat) (s : Nat → Int32) : Prop :=
  (M b 1 = s 0 ∧ M b 6 = s 3 ∧ M b 10 = stS s ∧ M b 11 = s 4 ∧ M b 12 = s 5 ∧ M b 13 = s 6 ∧ M b 14 = s 7 ∧ M b 15 = s 8 ∧ M b 16 = s 2 ∧ M b 17 = s 9 ∧ M b 18 = s 1) ∧
  (∀ k, k < 8 → M (b + 1) k = kd s k) ∧ (∀ k, k < 8 → M (b + 2) k = pl s k) ∧ (∀ k, k < 8 → M (b + 3) k = ag s k) ∧ (∀ k, k < 8 → M (b + 4) k = sk s k) ∧
  (∀ w, w < 14 → M (b + 5) w = fr s w) ∧ (∀ w, w < 14 → M (b + 6) w = tt s w) ∧ (∀ p, p < 10 → M (b + 7) p = eIn s (nI p)) ∧ ∀ q, q < 3 → M (b + 8) q = onS (ctS s (nI q))
def ldC (b : Nat) : List Nat := [6, b, b + 1, b + 2, b + 3, b + 4, b + 5, b + 6, b + 7, b + 8]
theorem stS_of {s s' : Nat → Int32} (h3 : s' 3 = s 3) (h14 : nw s ≤ 14) (h : ∀ w, w < 14 → sd s' w = sd s w) : stS s' = stS s := by
  unfold stS
  rw [show nw s' = nw s by show ix (s' 3) = ix (s 3); rw [h3]]
  exact bs_cong _ (fun w hw => by rw [h w (by omega)])
theorem eIn_of {s s' : Nat → Int32} (h3 : s' 3 = s 3) (h14 : nw s ≤ 14) (h : ∀ w, w < 14 → fr s' w = fr s w ∧ tt s' w = tt s w) (p : Int32) : eIn s' p = eIn s p := by
  unfold eIn
  rw [show nw s' = nw s by show ix (s' 3) = ix (s 3); rw [h3]]
  exact bs_cong _ (fun w hw => by unfold tch; rw [(h w (by omega)).1, (h w (by omega)).2])
theorem cnS_of {s s' : Nat → Int32} (key : Int32) : ∀ n, (∀ t, t < n → s' (84 + 200 * t) = s (84 + 200 * t)) → cnS s' key n = cnS s key n
  | 0, _ => rfl
  | n + 1, h => by
    simp only [cnS]
    rw [cnS_of key n (fun t ht => h t (by omega)), h n (by omega)]
theorem ctS_of {s s' : Nat → Int32} (h1 : s' 1 = s 1) (h : ∀ j, 84 ≤ j → s' j = s j) (key : Int32) : ctS s' key = ctS s key := by
  unfold ctS
  rw [show nt s' = nt s by show ix (s' 1) = ix (s 1); rw [h1]]
  exact cnS_of key _ (fun t _ => h _ (by omega))
theorem LR.of {M M' : Mem} {b : Nat} {s : Nat → Int32} (h : LR M b s) (e : ∀ j, j ≤ 8 → M' (b + j) = M (b + j)) : LR M' b s := by
  unfold LR
  rw [show M' b = M b from e 0 (by decide), e 1 (by decide), e 2 (by decide), e 3 (by decide), e 4 (by decide), e 5 (by decide), e 6 (by decide), e 7 (by decide), e 8 (by decide)]
  exact h
theorem LR_kd {M : Mem} {b : Nat} {s : Nat → Int32} (hW : WI s) (h : LR M b s) {i : Nat} (hi : i < 8) (v : Int32) : LR (um M (b + 1) i v) b (upd s (10 + 4 * i) v) := by
  have h14 := hW.2
  obtain ⟨⟨a1, a2, a3, a4, a5, a6, a7, a8, a9, a10, a11⟩, g1, g2, g3, g4, g5, g6, g7, g8⟩ := h
  have e3 : upd s (10 + 4 * i) v 3 = s 3 := pk_un (by omega)
  have es : stS (upd s (10 + 4 * i) v) = stS s := stS_of e3 h14 (fun w hw => pk_un (by omega))
  have ee : ∀ p, eIn (upd s (10 + 4 * i) v) p = eIn s p := eIn_of e3 h14 (fun w hw => ⟨pk_un (by omega), pk_un (by omega)⟩)
  have et : ∀ q, ctS (upd s (10 + 4 * i) v) q = ctS s q := ctS_of (pk_un (by omega)) (fun j hj => pk_un (by omega))
  refine ⟨⟨by rw [um_n _ _ _ (by omega), pk_un (by omega)]; exact a1, by rw [um_n _ _ _ (by omega), pk_un (by omega)]; exact a2, by rw [um_n _ _ _ (by omega), es]; exact a3, by rw [um_n _ _ _ (by omega), pk_un (by omega)]; exact a4, by rw [um_n _ _ _ (by omega), pk_un (by omega)]; exact a5, by rw [um_n _ _ _ (by omega), pk_un (by omega)]; exact a6, by rw [um_n _ _ _ (by omega), pk_un (by omega)]; exact a7, by rw [um_n _ _ _ (by omega), pk_un (by omega)]; exact a8, by rw [um_n _ _ _ (by omega), pk_un (by omega)]; exact a9, by rw [um_n _ _ _ (by omega), pk_un (by omega)]; exact a10, by rw [um_n _ _ _ (by omega), pk_un (by omega)]; exact a11⟩, fun k hk => ?_, fun k hk => by rw [um_n _ _ _ (by omega)]; show M (b + 2) k = upd s (10 + 4 * i) v (11 + 4 * k); rw [pk_un (by omega)]; exact g2 k hk, fun k hk => by rw [um_n _ _ _ (by omega)]; show M (b + 3) k = upd s (10 + 4 * i) v (12 + 4 * k); rw [pk_un (by omega)]; exact g3 k hk, fun k hk => by rw [um_n _ _ _ (by omega)]; show M (b + 4) k = upd s (10 + 4 * i) v (13 + 4 * k); rw [pk_un (by omega)]; exact g4 k hk, fun w hw => by rw [um_n _ _ _ (by omega)]; show M (b + 5) w = upd s (10 + 4 * i) v (42 + 3 * w); rw [pk_un (by omega)]; exact g5 w hw, fun w hw => by rw [um_n _ _ _ (by omega)]; show M (b + 6) w = upd s (10 + 4 * i) v (43 + 3 * w); rw [pk_un (by omega)]; exact g6 w hw, fun p hp => by rw [um_n _ _ _ (by omega), ee]; exact g7 p hp, fun q hq => by rw [um_n _ _ _ (by omega), et]; exact g8 q hq⟩
  rw [um_s]
  show upd _ _ _ k = upd s (10 + 4 * i) v (10 + 4 * k)
  by_cases e : k = i
  · subst e; rw [pk_us, pk_us]
  · rw [pk_un e, pk_un (by omega)]; exact g1 k hk
theorem LR_pl {M : Mem} {b : Nat} {s : Nat → Int32} (hW : WI s) (h : LR M b s) {i : Nat} (hi : i < 8) (v : Int32) : LR (um M (b + 2) i v) b (upd s (11 + 4 * i) v) := by
  have h14 := hW.2
  obtain ⟨⟨a1, a2, a3, a4, a5, a6, a7, a8, a9, a10, a11⟩, g1, g2, g3, g4, g5, g6, g7, g8⟩ := h
  have e3 : upd s (11 + 4 * i) v 3 = s 3 := pk_un (by omega)
  have es : stS (upd s (11 + 4 * i) v) = stS s := stS_of e3 h14 (fun w hw => pk_un (by omega))
  have ee : ∀ p, eIn (upd s (11 + 4 * i) v) p = eIn s p := eIn_of e3 h14 (fun w hw => ⟨pk_un (by omega), pk_un (by omega)⟩)
  have et : ∀ q, ctS (upd s (11 + 4 * i) v) q = ctS s q := ctS_of (pk_un (by omega)) (fun j hj => pk_un (by omega))
  refine ⟨⟨by rw [um_n _ _ _ (by omega), pk_un (by omega)]; exact a1, by rw [um_n _ _ _ (by omega), pk_un (by omega)]; exact a2, by rw [um_n _ _ _ (by omega), es]; exact a3, by rw [um_n _ _ _ (by omega), pk_un (by omega)]; exact a4, by rw [um_n _ _ _ (by omega), pk_un (by omega)]; exact a5, by rw [um_n _ _ _ (by omega), pk_un (by omega)]; exact a6, by rw [um_n _ _ _ (by omega), pk_un (by omega)]; exact a7, by rw [um_n _ _ _ (by omega), pk_un (by omega)]; exact a8, by rw [um_n _ _ _ (by omega), pk_un (by omega)]; exact a9, by rw [um_n _ _ _ (by omega), pk_un (by omega)]; exact a10, by rw [um_n _ _ _ (by omega), pk_un (by omega)]; exact a11⟩, fun k hk => by rw [um_n _ _ _ (by omega)]; show M (b + 1) k = upd s (11 + 4 * i) v (10 + 4 * k); rw [pk_un (by omega)]; exact g1 k hk, fun k hk => ?_, fun k hk => by rw [um_n _ _ _ (by omega)]; show M (b + 3) k = upd s (11 + 4 * i) v (12 + 4 * k); rw [pk_un (by omega)]; exact g3 k hk, fun k hk => by rw [um_n _ _ _ (by omega)]; show M (b + 4) k = upd s (11 + 4 * i) v (13 + 4 * k); rw [pk_un (by omega)]; exact g4 k hk, fun w hw => by rw [um_n _ _ _ (by omega)]; show M (b + 5) w = upd s (11 + 4 * i) v (42 + 3 * w); rw [pk_un (by omega)]; exact g5 w hw, fun w hw => by rw [um_n _ _ _ (by omega)]; show M (b + 6) w = upd s (11 + 4 * i) v (43 + 3 * w); rw [pk_un (by omega)]; exact g6 w hw, fun p hp => by rw [um_n _ _ _ (by omega), ee]; exact g7 p hp, fun q hq => by rw [um_n _ _ _ (by omega), et]; exact g8 q hq⟩
  rw [um_s]
  show upd _ _ _ k = upd s (11 + 4 * i) v (11 + 4 * k)
  by_cases e : k = i
  · subst e; rw [pk_us, pk_us]
  · rw [pk_un e, pk_un (by omega)]; exact g2 k hk
theorem LR_ag {M : Mem} {b : Nat} {s : Nat → Int32} (hW : WI s) (h : LR M b s) {i : Nat} (hi : i < 8) (v : Int32) : LR (um M (b + 3) i v) b (upd s (12 + 4 * i) v) := by
  have h14 := hW.2
  obtain ⟨⟨a1, a2, a3, a4, a5, a6, a7, a8, a9, a10, a11⟩, g1, g2, g3, g4, g5, g6, g7, g8⟩ := h
  have e3 : upd s (12 + 4 * i) v 3 = s 3 := pk_un (by omega)
  have es : stS (upd s (12 + 4 * i) v) = stS s := stS_of e3 h14 (fun w hw => pk_un (by omega))
  have ee : ∀ p, eIn (upd s (12 + 4 * i) v) p = eIn s p := eIn_of e3 h14 (fun w hw => ⟨pk_un (by omega), pk_un (by omega)⟩)
  have et : ∀ q, ctS (upd s (12 + 4 * i) v) q = ctS s q := ctS_of (pk_un (by omega)) (fun j hj => pk_un (by omega))
  refine ⟨⟨by rw [um_n _ _ _ (by omega), pk_un (by omega)]; exact a1, by rw [um_n _ _ _ (by omega), pk_un (by omega)]; exact a2, by rw [um_n _ _ _ (by omega), es]; exact a3, by rw [um_n _ _ _ (by omega), pk_un (by omega)]; exact a4, by rw [um_n _ _ _ (by omega), pk_un (by omega)]; exact a5, by rw [um_n _ _ _ (by omega), pk_un (by omega)]; exact a6, by rw [um_n _ _ _ (by omega), pk_un (by omega)]; exact a7, by rw [um_n _ _ _ (by omega), pk_un (by omega)]; exact a8, by rw [um_n _ _ _ (by omega), pk_un (by omega)]; exact a9, by rw [um_n _ _ _ (by omega), pk_un (by omega)]; exact a10, by rw [um_n _ _ _ (by omega), pk_un (by omega)]; exact a11⟩, fun k hk => by rw [um_n _ _ _ (by omega)]; show M (b + 1) k = upd s (12 + 4 * i) v (10 + 4 * k); rw [pk_un (by omega)]; exact g1 k hk, fun k hk => by rw [um_n _ _ _ (by omega)]; show M (b + 2) k = upd s (12 + 4 * i) v (11 + 4 * k); rw [pk_un (by omega)]; exact g2 k hk, fun k hk => ?_, fun k hk => by rw [um_n _ _ _ (by omega)]; show M (b + 4) k = upd s (12 + 4 * i) v (13 + 4 * k); rw [pk_un (by omega)]; exact g4 k hk, fun w hw => by rw [um_n _ _ _ (by omega)]; show M (b + 5) w = upd s (12 + 4 * i) v (42 + 3 * w); rw [pk_un (by omega)]; exact g5 w hw, fun w hw => by rw [um_n _ _ _ (by omega)]; show M (b + 6) w = upd s (12 + 4 * i) v (43 + 3 * w); rw [pk_un (by omega)]; exact g6 w hw, fun p hp => by rw [um_n _ _ _ (by omega), ee]; exact g7 p hp, fun q hq => by rw [um_n _ _ _ (by omega), et]; exact g8 q hq⟩
  rw [um_s]
  show upd _ _ _ k = upd s (12 + 4 * i) v (12 + 4 * k)
  by_cases e : k = i
  · subst e; rw [pk_us, pk_us]
  · rw [pk_un e, pk_un (by omega)]; exact g3 k hk
theorem LR_sk {M : Mem} {b : Nat} {s : Nat → Int32} (hW : WI s) (h : LR M b s) {i : Nat} (hi : i < 8) (v : Int32) : LR (um M (b + 4) i v) b (upd s (13 + 4 * i) v) := by
  have h14 := hW.2
  obtain ⟨⟨a1, a2, a3, a4, a5, a6, a7, a8, a9, a10, a11⟩, g1, g2, g3, g4, g5, g6, g7, g8⟩ := h
  have e3 : upd s (13 + 4 * i) v 3 = s 3 := pk_un (by omega)
  have es : stS (upd s (13 + 4 * i) v) = stS s := stS_of e3 h14 (fun w hw => pk_un (by omega))
  have ee : ∀ p, eIn (upd s (13 + 4 * i) v) p = eIn s p := eIn_of e3 h14 (fun w hw => ⟨pk_un (by omega), pk_un (by omega)⟩)
  have et : ∀ q, ctS (upd s (13 + 4 * i) v) q = ctS s q := ctS_of (pk_un (by omega)) (fun j hj => pk_un (by omega))
  refine ⟨⟨by rw [um_n _ _ _ (by omega), pk_un (by omega)]; exact a1, by rw [um_n _ _ _ (by omega), pk_un (by omega)]; exact a2, by rw [um_n _ _ _ (by omega), es]; exact a3, by rw [um_n _ _ _ (by omega), pk_un (by omega)]; exact a4, by rw [um_n _ _ _ (by omega), pk_un (by omega)]; exact a5, by rw [um_n _ _ _ (by omega), pk_un (by omega)]; exact a6, by rw [um_n _ _ _ (by omega), pk_un (by omega)]; exact a7, by rw [um_n _ _ _ (by omega), pk_un (by omega)]; exact a8, by rw [um_n _ _ _ (by omega), pk_un (by omega)]; exact a9, by rw [um_n _ _ _ (by omega), pk_un (by omega)]; exact a10, by rw [um_n _ _ _ (by omega), pk_un (by omega)]; exact a11⟩, fun k hk => by rw [um_n _ _ _ (by omega)]; show M (b + 1) k = upd s (13 + 4 * i) v (10 + 4 * k); rw [pk_un (by omega)]; exact g1 k hk, fun k hk => by rw [um_n _ _ _ (by omega)]; show M (b + 2) k = upd s (13 + 4 * i) v (11 + 4 * k); rw [pk_un (by omega)]; exact g2 k hk, fun k hk => by rw [um_n _ _ _ (by omega)]; show M (b + 3) k = upd s (13 + 4 * i) v (12 + 4 * k); rw [pk_un (by omega)]; exact g3 k hk, fun k hk => ?_, fun w hw => by rw [um_n _ _ _ (by omega)]; show M (b + 5) w = upd s (13 + 4 * i) v (42 + 3 * w); rw [pk_un (by omega)]; exact g5 w hw, fun w hw => by rw [um_n _ _ _ (by omega)]; show M (b + 6) w = upd s (13 + 4 * i) v (43 + 3 * w); rw [pk_un (by omega)]; exact g6 w hw, fun p hp => by rw [um_n _ _ _ (by omega), ee]; exact g7 p hp, fun q hq => by rw [um_n _ _ _ (by omega), et]; exact g8 q hq⟩
  rw [um_s]
  show upd _ _ _ k = upd s (13 + 4 * i) v (13 + 4 * k)
  by_cases e : k = i
  · subst e; rw [pk_us, pk_us]
  · rw [pk_un e, pk_un (by omega)]; exact g4 k hk
theorem LR_1 {M : Mem} {b : Nat} {s : Nat → Int32} (hW : WI s) (h : LR M b s) (v : Int32) : LR (um M b 1 v) b (upd s 0 v) := by
  have h14 := hW.2
  obtain ⟨⟨a1, a2, a3, a4, a5, a6, a7, a8, a9, a10, a11⟩, g1, g2, g3, g4, g5, g6, g7, g8⟩ := h
  have e3 : upd s 0 v 3 = s 3 := pk_un (by omega)
  have es : stS (upd s 0 v) = stS s := stS_of e3 h14 (fun w hw => pk_un (by omega))
  have ee : ∀ p, eIn (upd s 0 v) p = eIn s p := eIn_of e3 h14 (fun w hw => ⟨pk_un (by omega), pk_un (by omega)⟩)
  have et : ∀ q, ctS (upd s 0 v) q = ctS s q := ctS_of (pk_un (by omega)) (fun j hj => pk_un (by omega))
  refine ⟨⟨by rw [um_s, pk_us, pk_us], by rw [um_s, pk_un (by decide), pk_un (by omega)]; exact a2, by rw [um_s, pk_un (by decide), es]; exact a3, by rw [um_s, pk_un (by decide), pk_un (by omega)]; exact a4, by rw [um_s, pk_un (by decide), pk_un (by omega)]; exact a5, by rw [um_s, pk_un (by decide), pk_un (by omega)]; exact a6, by rw [um_s, pk_un (by decide), pk_un (by omega)]; exact a7, by rw [um_s, pk_un (by decide), pk_un (by omega)]; exact a8, by rw [um_s, pk_un (by decide), pk_un (by omega)]; exact a9, by rw [um_s, pk_un (by decide), pk_un (by omega)]; exact a10, by rw [um_s, pk_un (by decide), pk_un (by omega)]; exact a11⟩, fun k hk => by rw [um_n _ _ _ (by omega)]; show M (b + 1) k = upd s 0 v (10 + 4 * k); rw [pk_un (by omega)]; exact g1 k hk, fun k hk => by rw [um_n _ _ _ (by omega)]; show M (b + 2) k = upd s 0 v (11 + 4 * k); rw [pk_un (by omega)]; exact g2 k hk, fun k hk => by rw [um_n _ _ _ (by omega)]; show M (b + 3) k = upd s 0 v (12 + 4 * k); rw [pk_un (by omega)]; exact g3 k hk, fun k hk => by rw [um_n _ _ _ (by omega)]; show M (b + 4) k = upd s 0 v (13 + 4 * k); rw [pk_un (by omega)]; exact g4 k hk, fun w hw => by rw [um_n _ _ _ (by omega)]; show M (b + 5) w = upd s 0 v (42 + 3 * w); rw [pk_un (by omega)]; exact g5 w hw, fun w hw => by rw [um_n _ _ _ (by omega)]; show M (b + 6) w = upd s 0 v (43 + 3 * w); rw [pk_un (by omega)]; exact g6 w hw, fun p hp => by rw [um_n _ _ _ (by omega), ee]; exact g7 p hp, fun q hq => by rw [um_n _ _ _ (by omega), et]; exact g8 q hq⟩
theorem LR_11 {M : Mem} {b : Nat} {s : Nat → Int32} (hW : WI s) (h : LR M b s) (v : Int32) : LR (um M b 11 v) b (upd s 4 v) := by
  have h14 := hW.2
  obtain ⟨⟨a1, a2, a3, a4, a5, a6, a7, a8, a9, a10, a11⟩, g1, g2, g3, g4, g5, g6, g7, g8⟩ := h
  have e3 : upd s 4 v 3 = s 3 := pk_un (by omega)
  have es : stS (upd s 4 v) = stS s := stS_of e3 h14 (fun w hw => pk_un (by omega))
  have ee : ∀ p, eIn (upd s 4 v) p = eIn s p := eIn_of e3 h14 (fun w hw => ⟨pk_un (by omega), pk_un (by omega)⟩)
  have et : ∀ q, ctS (upd s 4 v) q = ctS s q := ctS_of (pk_un (by omega)) (fun j hj => pk_un (by omega))
  refine ⟨⟨by rw [um_s, pk_un (by decide), pk_un (by omega)]; exact a1, by rw [um_s, pk_un (by decide), pk_un (by omega)]; exact a2, by rw [um_s, pk_un (by decide), es]; exact a3, by rw [um_s, pk_us, pk_us], by rw [um_s, pk_un (by decide), pk_un (by omega)]; exact a5, by rw [um_s, pk_un (by decide), pk_un (by omega)]; exact a6, by rw [um_s, pk_un (by decide), pk_un (by omega)]; exact a7, by rw [um_s, pk_un (by decide), pk_un (by omega)]; exact a8, by rw [um_s, pk_un (by decide), pk_un (by omega)]; exact a9, by rw [um_s, pk_un (by decide), pk_un (by omega)]; exact a10, by rw [um_s, pk_un (by decide), pk_un (by omega)]; exact a11⟩, fun k hk => by rw [um_n _ _ _ (by omega)]; show M (b + 1) k = upd s 4 v (10 + 4 * k); rw [pk_un (by omega)]; exact g1 k hk, fun k hk => by rw [um_n _ _ _ (by omega)]; show M (b + 2) k = upd s 4 v (11 + 4 * k); rw [pk_un (by omega)]; exact g2 k hk, fun k hk => by rw [um_n _ _ _ (by omega)]; show M (b + 3) k = upd s 4 v (12 + 4 * k); rw [pk_un (by omega)]; exact g3 k hk, fun k hk => by rw [um_n _ _ _ (by omega)]; show M (b + 4) k = upd s 4 v (13 + 4 * k); rw [pk_un (by omega)]; exact g4 k hk, fun w hw => by rw [um_n _ _ _ (by omega)]; show M (b + 5) w = upd s 4 v (42 + 3 * w); rw [pk_un (by omega)]; exact g5 w hw, fun w hw => by rw [um_n _ _ _ (by omega)]; show M (b + 6) w = upd s 4 v (43 + 3 * w); rw [pk_un (by omega)]; exact g6 w hw, fun p hp => by rw [um_n _ _ _ (by omega), ee]; exact g7 p hp, fun q hq => by rw [um_n _ _ _ (by omega), et]; exact g8 q hq⟩
theorem LR_12 {M : Mem} {b : Nat} {s : Nat → Int32} (hW : WI s) (h : LR M b s) (v : Int32) : LR (um M b 12 v) b (upd s 5 v) := by
  have h14 := hW.2
  obtain ⟨⟨a1, a2, a3, a4, a5, a6, a7, a8, a9, a10, a11⟩, g1, g2, g3, g4, g5, g6, g7, g8⟩ := h
  have e3 : upd s 5 v 3 = s 3 := pk_un (by omega)
  have es : stS (upd s 5 v) = stS s := stS_of e3 h14 (fun w hw => pk_un (by omega))
  have ee : ∀ p, eIn (upd s 5 v) p = eIn s p := eIn_of e3 h14 (fun w hw => ⟨pk_un (by omega), pk_un (by omega)⟩)
  have et : ∀ q, ctS (upd s 5 v) q = ctS s q := ctS_of (pk_un (by omega)) (fun j hj => pk_un (by omega))
  refine ⟨⟨by rw [um_s, pk_un (by decide), pk_un (by omega)]; exact a1, by rw [um_s, pk_un (by decide), pk_un (by omega)]; exact a2, by rw [um_s, pk_un (by decide), es]; exact a3, by rw [um_s, pk_un (by decide), pk_un (by omega)]; exact a4, by rw [um_s, pk_us, pk_us], by rw [um_s, pk_un (by decide), pk_un (by omega)]; exact a6, by rw [um_s, pk_un (by decide), pk_un (by omega)]; exact a7, by rw [um_s, pk_un (by decide), pk_un (by omega)]; exact a8, by rw [um_s, pk_un (by decide), pk_un (by omega)]; exact a9, by rw [um_s, pk_un (by decide), pk_un (by omega)]; exact a10, by rw [um_s, pk_un (by decide), pk_un (by omega)]; exact a11⟩, fun k hk => by rw [um_n _ _ _ (by omega)]; show M (b + 1) k = upd s 5 v (10 + 4 * k); rw [pk_un (by omega)]; exact g1 k hk, fun k hk => by rw [um_n _ _ _ (by omega)]; show M (b + 2) k = upd s 5 v (11 + 4 * k); rw [pk_un (by omega)]; exact g2 k hk, fun k hk => by rw [um_n _ _ _ (by omega)]; show M (b + 3) k = upd s 5 v (12 + 4 * k); rw [pk_un (by omega)]; exact g3 k hk, fun k hk => by rw [um_n _ _ _ (by omega)]; show M (b + 4) k = upd s 5 v (13 + 4 * k); rw [pk_un (by omega)]; exact g4 k hk, fun w hw => by rw [um_n _ _ _ (by omega)]; show M (b + 5) w = upd s 5 v (42 + 3 * w); rw [pk_un (by omega)]; exact g5 w hw, fun w hw => by rw [um_n _ _ _ (by omega)]; show M (b + 6) w = upd s 5 v (43 + 3 * w); rw [pk_un (by omega)]; exact g6 w hw, fun p hp => by rw [um_n _ _ _ (by omega), ee]; exact g7 p hp, fun q hq => by rw [um_n _ _ _ (by omega), et]; exact g8 q hq⟩
theorem LR_13 {M : Mem} {b : Nat} {s : Nat → Int32} (hW : WI s) (h : LR M b s) (v : Int32) : LR (um M b 13 v) b (upd s 6 v) := by
  have h14 := hW.2
  obtain ⟨⟨a1, a2, a3, a4, a5, a6, a7, a8, a9, a10, a11⟩, g1, g2, g3, g4, g5, g6, g7, g8⟩ := h
  have e3 : upd s 6 v 3 = s 3 := pk_un (by omega)
  have es : stS (upd s 6 v) = stS s := stS_of e3 h14 (fun w hw => pk_un (by omega))
  have ee : ∀ p, eIn (upd s 6 v) p = eIn s p := eIn_of e3 h14 (fun w hw => ⟨pk_un (by omega), pk_un (by omega)⟩)
  have et : ∀ q, ctS (upd s 6 v) q = ctS s q := ctS_of (pk_un (by omega)) (fun j hj => pk_un (by omega))
  refine ⟨⟨by rw [um_s, pk_un (by decide), pk_un (by omega)]; exact a1, by rw [um_s, pk_un (by decide), pk_un (by omega)]; exact a2, by rw [um_s, pk_un (by decide), es]; exact a3, by rw [um_s, pk_un (by decide), pk_un (by omega)]; exact a4, by rw [um_s, pk_un (by decide), pk_un (by omega)]; exact a5, by rw [um_s, pk_us, pk_us], by rw [um_s, pk_un (by decide), pk_un (by omega)]; exact a7, by rw [um_s, pk_un (by decide), pk_un (by omega)]; exact a8, by rw [um_s, pk_un (by decide), pk_un (by omega)]; exact a9, by rw [um_s, pk_un (by decide), pk_un (by omega)]; exact a10, by rw [um_s, pk_un (by decide), pk_un (by omega)]; exact a11⟩, fun k hk => by rw [um_n _ _ _ (by omega)]; show M (b + 1) k = upd s 6 v (10 + 4 * k); rw [pk_un (by omega)]; exact g1 k hk, fun k hk => by rw [um_n _ _ _ (by omega)]; show M (b + 2) k = upd s 6 v (11 + 4 * k); rw [pk_un (by omega)]; exact g2 k hk, fun k hk => by rw [um_n _ _ _ (by omega)]; show M (b + 3) k = upd s 6 v (12 + 4 * k); rw [pk_un (by omega)]; exact g3 k hk, fun k hk => by rw [um_n _ _ _ (by omega)]; show M (b + 4) k = upd s 6 v (13 + 4 * k); rw [pk_un (by omega)]; exact g4 k hk, fun w hw => by rw [um_n _ _ _ (by omega)]; show M (b + 5) w = upd s 6 v (42 + 3 * w); rw [pk_un (by omega)]; exact g5 w hw, fun w hw => by rw [um_n _ _ _ (by omega)]; show M (b + 6) w = upd s 6 v (43 + 3 * w); rw [pk_un (by omega)]; exact g6 w hw, fun p hp => by rw [um_n _ _ _ (by omega), ee]; exact g7 p hp, fun q hq => by rw [um_n _ _ _ (by omega), et]; exact g8 q hq⟩
theorem LR_14 {M : Mem} {b : Nat} {s : Nat → Int32} (hW : WI s) (h : LR M b s) (v : Int32) : LR (um M b 14 v) b (upd s 7 v) := by
  have h14 := hW.2
  obtain ⟨⟨a1, a2, a3, a4, a5, a6, a7, a8, a9, a10, a11⟩, g1, g2, g3, g4, g5, g6, g7, g8⟩ := h
  have e3 : upd s 7 v 3 = s 3 := pk_un (by omega)
  have es : stS (upd s 7 v) = stS s := stS_of e3 h14 (fun w hw => pk_un (by omega))
  have ee : ∀ p, eIn (upd s 7 v) p = eIn s p := eIn_of e3 h14 (fun w hw => ⟨pk_un (by omega), pk_un (by omega)⟩)
  have et : ∀ q, ctS (upd s 7 v) q = ctS s q := ctS_of (pk_un (by omega)) (fun j hj => pk_un (by omega))
  refine ⟨⟨by rw [um_s, pk_un (by decide), pk_un (by omega)]; exact a1, by rw [um_s, pk_un (by decide), pk_un (by omega)]; exact a2, by rw [um_s, pk_un (by decide), es]; exact a3, by rw [um_s, pk_un (by decide), pk_un (by omega)]; exact a4, by rw [um_s, pk_un (by decide), pk_un (by omega)]; exact a5, by rw [um_s, pk_un (by decide), pk_un (by omega)]; exact a6, by rw [um_s, pk_us, pk_us], by rw [um_s, pk_un (by decide), pk_un (by omega)]; exact a8, by rw [um_s, pk_un (by decide), pk_un (by omega)]; exact a9, by rw [um_s, pk_un (by decide), pk_un (by omega)]; exact a10, by rw [um_s, pk_un (by decide), pk_un (by omega)]; exact a11⟩, fun k hk => by rw [um_n _ _ _ (by omega)]; show M (b + 1) k = upd s 7 v (10 + 4 * k); rw [pk_un (by omega)]; exact g1 k hk, fun k hk => by rw [um_n _ _ _ (by omega)]; show M (b + 2) k = upd s 7 v (11 + 4 * k); rw [pk_un (by omega)]; exact g2 k hk, fun k hk => by rw [um_n _ _ _ (by omega)]; show M (b + 3) k = upd s 7 v (12 + 4 * k); rw [pk_un (by omega)]; exact g3 k hk, fun k hk => by rw [um_n _ _ _ (by omega)]; show M (b + 4) k = upd s 7 v (13 + 4 * k); rw [pk_un (by omega)]; exact g4 k hk, fun w hw => by rw [um_n _ _ _ (by omega)]; show M (b + 5) w = upd s 7 v (42 + 3 * w); rw [pk_un (by omega)]; exact g5 w hw, fun w hw => by rw [um_n _ _ _ (by omega)]; show M (b + 6) w = upd s 7 v (43 + 3 * w); rw [pk_un (by omega)]; exact g6 w hw, fun p hp => by rw [um_n _ _ _ (by omega), ee]; exact g7 p hp, fun q hq => by rw [um_n _ _ _ (by omega), et]; exact g8 q hq⟩
theorem LR_15 {M : Mem} {b : Nat} {s : Nat → Int32} (hW : WI s) (h : LR M b s) (v : Int32) : LR (um M b 15 v) b (upd s 8 v) := by
  have h14 := hW.2
  obtain ⟨⟨a1, a2, a3, a4, a5, a6, a7, a8, a9, a10, a11⟩, g1, g2, g3, g4, g5, g6, g7, g8⟩ := h
  have e3 : upd s 8 v 3 = s 3 := pk_un (by omega)
  have es : stS (upd s 8 v) = stS s := stS_of e3 h14 (fun w hw => pk_un (by omega))
  have ee : ∀ p, eIn (upd s 8 v) p = eIn s p := eIn_of e3 h14 (fun w hw => ⟨pk_un (by omega), pk_un (by omega)⟩)
  have et : ∀ q, ctS (upd s 8 v) q = ctS s q := ctS_of (pk_un (by omega)) (fun j hj => pk_un (by omega))
  refine ⟨⟨by rw [um_s, pk_un (by decide), pk_un (by omega)]; exact a1, by rw [um_s, pk_un (by decide), pk_un (by omega)]; exact a2, by rw [um_s, pk_un (by decide), es]; exact a3, by rw [um_s, pk_un (by decide), pk_un (by omega)]; exact a4, by rw [um_s, pk_un (by decide), pk_un (by omega)]; exact a5, by rw [um_s, pk_un (by decide), pk_un (by omega)]; exact a6, by rw [um_s, pk_un (by decide), pk_un (by omega)]; exact a7, by rw [um_s, pk_us, pk_us], by rw [um_s, pk_un (by decide), pk_un (by omega)]; exact a9, by rw [um_s, pk_un (by decide), pk_un (by omega)]; exact a10, by rw [um_s, pk_un (by decide), pk_un (by omega)]; exact a11⟩, fun k hk => by rw [um_n _ _ _ (by omega)]; show M (b + 1) k = upd s 8 v (10 + 4 * k); rw [pk_un (by omega)]; exact g1 k hk, fun k hk => by rw [um_n _ _ _ (by omega)]; show M (b + 2) k = upd s 8 v (11 + 4 * k); rw [pk_un (by omega)]; exact g2 k hk, fun k hk => by rw [um_n _ _ _ (by omega)]; show M (b + 3) k = upd s 8 v (12 + 4 * k); rw [pk_un (by omega)]; exact g3 k hk, fun k hk => by rw [um_n _ _ _ (by omega)]; show M (b + 4) k = upd s 8 v (13 + 4 * k); rw [pk_un (by omega)]; exact g4 k hk, fun w hw => by rw [um_n _ _ _ (by omega)]; show M (b + 5) w = upd s 8 v (42 + 3 * w); rw [pk_un (by omega)]; exact g5 w hw, fun w hw => by rw [um_n _ _ _ (by omega)]; show M (b + 6) w = upd s 8 v (43 + 3 * w); rw [pk_un (by omega)]; exact g6 w hw, fun p hp => by rw [um_n _ _ _ (by omega), ee]; exact g7 p hp, fun q hq => by rw [um_n _ _ _ (by omega), et]; exact g8 q hq⟩
theorem LR_16 {M : Mem} {b : Nat} {s : Nat → Int32} (hW : WI s) (h : LR M b s) (v : Int32) : LR (um M b 16 v) b (upd s 2 v) := by
  have h14 := hW.2
  obtain ⟨⟨a1, a2, a3, a4, a5, a6, a7, a8, a9, a10, a11⟩, g1, g2, g3, g4, g5, g6, g7, g8⟩ := h
  have e3 : upd s 2 v 3 = s 3 := pk_un (by omega)
  have es : stS (upd s 2 v) = stS s := stS_of e3 h14 (fun w hw => pk_un (by omega))
  have ee : ∀ p, eIn (upd s 2 v) p = eIn s p := eIn_of e3 h14 (fun w hw => ⟨pk_un (by omega), pk_un (by omega)⟩)
  have et : ∀ q, ctS (upd s 2 v) q = ctS s q := ctS_of (pk_un (by omega)) (fun j hj => pk_un (by omega))
  refine ⟨⟨by rw [um_s, pk_un (by decide), pk_un (by omega)]; exact a1, by rw [um_s, pk_un (by decide), pk_un (by omega)]; exact a2, by rw [um_s, pk_un (by decide), es]; exact a3, by rw [um_s, pk_un (by decide), pk_un (by omega)]; exact a4, by rw [um_s, pk_un (by decide), pk_un (by omega)]; exact a5, by rw [um_s, pk_un (by decide), pk_un (by omega)]; exact a6, by rw [um_s, pk_un (by decide), pk_un (by omega)]; exact a7, by rw [um_s, pk_un (by decide), pk_un (by omega)]; exact a8, by rw [um_s, pk_us, pk_us], by rw [um_s, pk_un (by decide), pk_un (by omega)]; exact a10, by rw [um_s, pk_un (by decide), pk_un (by omega)]; exact a11⟩, fun k hk => by rw [um_n _ _ _ (by omega)]; show M (b + 1) k = upd s 2 v (10 + 4 * k); rw [pk_un (by omega)]; exact g1 k hk, fun k hk => by rw [um_n _ _ _ (by omega)]; show M (b + 2) k = upd s 2 v (11 + 4 * k); rw [pk_un (by omega)]; exact g2 k hk, fun k hk => by rw [um_n _ _ _ (by omega)]; show M (b + 3) k = upd s 2 v (12 + 4 * k); rw [pk_un (by omega)]; exact g3 k hk, fun k hk => by rw [um_n _ _ _ (by omega)]; show M (b + 4) k = upd s 2 v (13 + 4 * k); rw [pk_un (by omega)]; exact g4 k hk, fun w hw => by rw [um_n _ _ _ (by omega)]; show M (b + 5) w = upd s 2 v (42 + 3 * w); rw [pk_un (by omega)]; exact g5 w hw, fun w hw => by rw [um_n _ _ _ (by omega)]; show M (b + 6) w = upd s 2 v (43 + 3 * w); rw [pk_un (by omega)]; exact g6 w hw, fun p hp => by rw [um_n _ _ _ (by omega), ee]; exact g7 p hp, fun q hq => by rw [um_n _ _ _ (by omega), et]; exact g8 q hq⟩
theorem LR_17 {M : Mem} {b : Nat} {s : Nat → Int32} (hW : WI s) (h : LR M b s) (v : Int32) : LR (um M b 17 v) b (upd s 9 v) := by
  have h14 := hW.2
  obtain ⟨⟨a1, a2, a3, a4, a5, a6, a7, a8, a9, a10, a11⟩, g1, g2, g3, g4, g5, g6, g7, g8⟩ := h
  have e3 : upd s 9 v 3 = s 3 := pk_un (by omega)
  have es : stS (upd s 9 v) = stS s := stS_of e3 h14 (fun w hw => pk_un (by omega))
  have ee : ∀ p, eIn (upd s 9 v) p = eIn s p := eIn_of e3 h14 (fun w hw => ⟨pk_un (by omega), pk_un (by omega)⟩)
  have et : ∀ q, ctS (upd s 9 v) q = ctS s q := ctS_of (pk_un (by omega)) (fun j hj => pk_un (by omega))
  refine ⟨⟨by rw [um_s, pk_un (by decide), pk_un (by omega)]; exact a1, by rw [um_s, pk_un (by decide), pk_un (by omega)]; exact a2, by rw [um_s, pk_un (by decide), es]; exact a3, by rw [um_s, pk_un (by decide), pk_un (by omega)]; exact a4, by rw [um_s, pk_un (by decide), pk_un (by omega)]; exact a5, by rw [um_s, pk_un (by decide), pk_un (by omega)]; exact a6, by rw [um_s, pk_un (by decide), pk_un (by omega)]; exact a7, by rw [um_s, pk_un (by decide), pk_un (by omega)]; exact a8, by rw [um_s, pk_un (by decide), pk_un (by omega)]; exact a9, by rw [um_s, pk_us, pk_us], by rw [um_s, pk_un (by decide), pk_un (by omega)]; exact a11⟩, fun k hk => by rw [um_n _ _ _ (by omega)]; show M (b + 1) k = upd s 9 v (10 + 4 * k); rw [pk_un (by omega)]; exact g1 k hk, fun k hk => by rw [um_n _ _ _ (by omega)]; show M (b + 2) k = upd s 9 v (11 + 4 * k); rw [pk_un (by omega)]; exact g2 k hk, fun k hk => by rw [um_n _ _ _ (by omega)]; show M (b + 3) k = upd s 9 v (12 + 4 * k); rw [pk_un (by omega)]; exact g3 k hk, fun k hk => by rw [um_n _ _ _ (by omega)]; show M (b + 4) k = upd s 9 v (13 + 4 * k); rw [pk_un (by omega)]; exact g4 k hk, fun w hw => by rw [um_n _ _ _ (by omega)]; show M (b + 5) w = upd s 9 v (42 + 3 * w); rw [pk_un (by omega)]; exact g5 w hw, fun w hw => by rw [um_n _ _ _ (by omega)]; show M (b + 6) w = upd s 9 v (43 + 3 * w); rw [pk_un (by omega)]; exact g6 w hw, fun p hp => by rw [um_n _ _ _ (by omega), ee]; exact g7 p hp, fun q hq => by rw [um_n _ _ _ (by omega), et]; exact g8 q hq⟩
theorem bt_x (x y : Int32) (i : Nat) : bt (x ^^^ y) i = (bt x i ^^ bt y i) := b_xor x y i
theorem LR_st {M : Mem} {b : Nat} {s : Nat → Int32} (hW : WI s) (h : LR M b s) {w : Nat} (hw : w < nw s) {v : Int32} (hv : (v = 1 ↔ ¬ sd s w = 1)) : LR (um M b 10 (M b 10 ^^^ ((1 : Int32) <<< (nI w &&& 31)))) b (upd s (44 + 3 * w) v) := by
  have h14 := hW.2
  obtain ⟨⟨a1, a2, a3, a4, a5, a6, a7, a8, a9, a10, a11⟩, g1, g2, g3, g4, g5, g6, g7, g8⟩ := h
  have e3 : upd s (44 + 3 * w) v 3 = s 3 := pk_un (by omega)
  have es : stS (upd s (44 + 3 * w) v) = stS s ^^^ ((1 : Int32) <<< (nI w &&& 31)) := by
    apply b_ext
    intro i hi
    rw [b_xor, bt_one (by omega)]
    unfold stS
    rw [show nw (upd s (44 + 3 * w) v) = nw s by show ix _ = ix _; rw [e3], bt_bs _ _ _ (by omega), bt_bs _ _ _ (by omega)]
    by_cases e : i = w
    · subst e
      have e1 : sd (upd s (44 + 3 * i) v) i = v := pk_us
      rw [e1]
      by_cases h1 : sd s i = 1
      · have : ¬ v = 1 := fun q => (hv.mp q) h1
        simp [hw, h1, this]
      · have : v = 1 := hv.mpr h1
        simp [hw, h1, this]
    · have e1 : sd (upd s (44 + 3 * w) v) i = sd s i := pk_un (by omega)
      rw [e1]
      simp [e]
  have ee : ∀ p, eIn (upd s (44 + 3 * w) v) p = eIn s p := eIn_of e3 h14 (fun w hw => ⟨pk_un (by omega), pk_un (by omega)⟩)
  have et : ∀ q, ctS (upd s (44 + 3 * w) v) q = ctS s q := ctS_of (pk_un (by omega)) (fun j hj => pk_un (by omega))
  refine ⟨⟨by rw [um_s, pk_un (by decide), pk_un (by omega)]; exact a1, by rw [um_s, pk_un (by decide), pk_un (by omega)]; exact a2, by rw [um_s, pk_us, es, a3], by rw [um_s, pk_un (by decide), pk_un (by omega)]; exact a4, by rw [um_s, pk_un (by decide), pk_un (by omega)]; exact a5, by rw [um_s, pk_un (by decide), pk_un (by omega)]; exact a6, by rw [um_s, pk_un (by decide), pk_un (by omega)]; exact a7, by rw [um_s, pk_un (by decide), pk_un (by omega)]; exact a8, by rw [um_s, pk_un (by decide), pk_un (by omega)]; exact a9, by rw [um_s, pk_un (by decide), pk_un (by omega)]; exact a10, by rw [um_s, pk_un (by decide), pk_un (by omega)]; exact a11⟩, fun k hk => by rw [um_n _ _ _ (by omega)]; show M (b + 1) k = upd s (44 + 3 * w) v (10 + 4 * k); rw [pk_un (by omega)]; exact g1 k hk, fun k hk => by rw [um_n _ _ _ (by omega)]; show M (b + 2) k = upd s (44 + 3 * w) v (11 + 4 * k); rw [pk_un (by omega)]; exact g2 k hk, fun k hk => by rw [um_n _ _ _ (by omega)]; show M (b + 3) k = upd s (44 + 3 * w) v (12 + 4 * k); rw [pk_un (by omega)]; exact g3 k hk, fun k hk => by rw [um_n _ _ _ (by omega)]; show M (b + 4) k = upd s (44 + 3 * w) v (13 + 4 * k); rw [pk_un (by omega)]; exact g4 k hk, fun k hk => by rw [um_n _ _ _ (by omega)]; show M (b + 5) k = upd s (44 + 3 * w) v (42 + 3 * k); rw [pk_un (by omega)]; exact g5 k hk, fun k hk => by rw [um_n _ _ _ (by omega)]; show M (b + 6) k = upd s (44 + 3 * w) v (43 + 3 * k); rw [pk_un (by omega)]; exact g6 k hk, fun p hp => by rw [um_n _ _ _ (by omega), ee]; exact g7 p hp, fun q hq => by rw [um_n _ _ _ (by omega), et]; exact g8 q hq⟩
-- texts
def nmI (v : Int32) : Int32 := if v = 119 ∨ v = 107 ∨ v = 115 then 0 else if v = 97 ∨ v = 105 ∨ v = 112 then 1 else 2
def encS (wh v : Int32) : Int32 := if wh = 0 then v else if wh = 1 then 10000 + nmI v else 20000 + v
def LW (M : Mem) (s : Nat → Int32) (t : Nat) : Prop := M 3 t = s (86 + 200 * t) ∧ M 4 t = s (84 + 200 * t) ∧ M 5 t = s (85 + 200 * t) ∧ ∀ i, i < tMany s t → M (7 + t) i = encS (tWh s t i) (tVa s t i)
def nmX (a b c : Int32) : Nat → Int32 := fun j => if j = 119 ∨ j = 107 ∨ j = 115 then a else if j = 97 ∨ j = 105 ∨ j = 112 then b else c
section
variable {l : Launch} {G : GT} {D : Nat} {M : Mem} {R : Option Value → Mem → Prop}
theorem sX2_joined {c x y : Int32} (hD : 4 ≤ D) (hc : c = 124 ∨ c = 38 ∨ c = 60 ∨ c = 61 ∨ c = 62 ∨ c = 43 ∨ c = 45 ∨ c = 42 ∨ c = 47) (hR : R (some (.int (joI c x y))) M) : Tr l G D mX2_joined [.int c, .int x, .int y] M R := by
  obtain ⟨d, rfl⟩ := dE hD
  refine tX2_joined ⟨fun h => ?_, fun h => ?_, fun h => ?_, fun h => ?_, fun h => ?_, fun h => ?_, fun h => ?_, fun h => ?_, fun a38 a42 a43 a45 a60 a61 a62 a124 => ?_⟩
  · subst h
    have hR : R (some (.int (if x = 0 then 0 else if y = 0 then 0 else 1))) M := hR
    refine ⟨fun h1 => ?_, fun h1 => ⟨fun h2 => ?_, fun h2 => ?_⟩⟩
    · rw [if_pos h1] at hR; exact hR
    · rw [if_neg h1, if_pos h2] at hR; exact hR
    · rw [if_neg h1, if_neg h2] at hR; exact hR
  · subst h; exact hR
  · subst h; exact hR
  · subst h; exact hR
  · subst h
    have hR : R (some (.int (if y ≤ x then 0 else 1))) M := hR
    refine ⟨fun h1 => ?_, fun h1 => ?_⟩
    · rw [if_pos h1] at hR; exact hR
    · rw [if_neg h1] at hR; exact hR
  · subst h
    have hR : R (some (.int (if x = y then 1 else 0))) M := hR
    refine ⟨fun h1 => ?_, fun h1 => ?_⟩
    · rw [if_pos h1] at hR; exact hR
    · rw [if_neg h1] at hR; exact hR
  · subst h
    have hR : R (some (.int (if x ≤ y then 0 else 1))) M := hR
    refine ⟨fun h1 => ?_, fun h1 => ?_⟩
    · rw [if_pos h1] at hR; exact hR
    · rw [if_neg h1] at hR; exact hR
  · subst h
    have hR : R (some (.int (if x = 0 then (if y = 0 then 0 else 1) else 1))) M := hR
    refine ⟨fun h1 => ⟨fun h2 => ?_, fun h2 => ?_⟩, fun h1 => ?_⟩
    · rw [if_pos h1, if_pos h2] at hR; exact hR
    · rw [if_pos h1, if_neg h2] at hR; exact hR
    · rw [if_neg h1] at hR; exact hR
  · have : c = 47 := by
      rcases hc with h | h | h | h | h | h | h | h | h
      · exact absurd h a124
      · exact absurd h a38
      · exact absurd h a60
      · exact absurd h a61
      · exact absurd h a62
      · exact absurd h a43
      · exact absurd h a45
      · exact absurd h a42
      · exact h
    subst this
    have hR : R (some (.int (if y = 0 then 0 else x / y))) M := hR
    refine ⟨fun h1 => ?_, fun h1 => ⟨h1, ?_⟩⟩
    · rw [if_pos h1] at hR; exact hR
    · rw [if_neg h1] at hR; exact hR
theorem sX2_valueOf {s : Nat → Int32} {t : Nat} {a b c : Int32} (hD : 8 ≤ D) (ht : t < 14) (hw : WfT s t) (hL : LW M s t) (hR : ∀ M', Ag [6] M M' → R (some (.int (evS s t (nmX a b c)))) M') : Tr l G D mX2_valueOf [.ref (G.1 1), .int (nI t), .int a, .int b, .int c] M R := by
  obtain ⟨d, rfl⟩ := dE (show 4 ≤ D by omega)
  have h96 := hw.2.2.1
  have hmany := hw.2.1
  refine tX2_valueOf ⟨fun h => absurd h (nI_pos (by omega)), fun _ => ⟨fun _ => ⟨vpn ht (by decide), ?_⟩, fun h => absurd ((lt_nI (by omega) (by decide : 14 < 2 ^ 31)).mpr ht) h⟩⟩
  rw [ix_nI (by omega)]
  have hsc := cod_sh ht
  have hkc := cod_in ht
  have loop : ∀ i, i ≤ tMany s t → ∀ M', Ag [6] M M' → M' 6 = (rnS s t (nmX a b c) (M 6) i).2 → At l G (d + 4) mX2_valueOf 26 [some (.ref (G.1 1)), some (.int (nI t)), some (.int a), some (.int b), some (.int c), some (.ref (G.1 (7 + t))), some (.int (nI (hgS s t i))), some (.int (nI i)), none, none] [] M' R := by
    refine upL (fun i => ∀ M', Ag [6] M M' → M' 6 = (rnS s t (nmX a b c) (M 6) i).2 → At l G (d + 4) mX2_valueOf 26 [some (.ref (G.1 1)), some (.int (nI t)), some (.int a), some (.int b), some (.int c), some (.ref (G.1 (7 + t))), some (.int (nI (hgS s t i))), some (.int (nI i)), none, none] [] M' R) (tMany s t) ?_ ?_
    · intro M' hA hp
      have e3 : M' 3 = M 3 := hA 3 (by decide)
      refine bX2_valueOf_26 hsc hkc ⟨vpn ht (by decide), fun _ => bX2_valueOf_236 ?_, fun h => absurd ?_ h⟩
      · rw [hp, rn_agree hw (fun i _ _ => rfl) (f0' := fun _ => 0) (tMany s t) (Nat.le_refl _) 0 (by rw [hw.2.2.2.1]; exact Nat.one_pos)]
        exact hR M' hA
      · rw [ix_nI (by omega), e3, hL.1, hmany]
        exact Int32.le_refl _
    · intro i hi ih M' hA hp
      have e3 : M' 3 = M 3 := hA 3 (by decide)
      have e7 : M' (7 + t) = M (7 + t) := hA (7 + t) (by simp; omega)
      have hle := hg_le s t i
      have hs := hw.2.2.2.2 i hi
      have efst := rn_fst s t (nmX a b c) (M 6) i
      have hcode := hL.2.2.2 i hi
      rw [← e7] at hcode
      have next : ∀ (n : Nat) M'', n = hgS s t (i + 1) → Ag [6] M' M'' → M'' 6 = (rnS s t (nmX a b c) (M 6) (i + 1)).2 → At l G (d + 4) mX2_valueOf 230 [some (.ref (G.1 1)), some (.int (nI t)), some (.int a), some (.int b), some (.int c), some (.ref (G.1 (7 + t))), some (.int (nI n)), some (.int (nI i)), none, none] [] M'' R := by
        intro n M'' hn hA2 hp2
        subst hn
        refine bX2_valueOf_230 hsc hkc ?_
        rw [p1]
        exact ih M'' (hA.tr hA2) hp2
      simp only [rnS, stp, efst] at next
      simp only [hgS] at next
      have n14 : ¬ (96 : Int32) ≤ nI (hgS s t i) := by rw [show (96 : Int32) = nI 96 from rfl, le_nI (by omega) (by omega)]; omega
      refine bX2_valueOf_26 hsc hkc ⟨vpn ht (by decide), fun h => absurd h ?_, fun _ => ⟨fun h => absurd h ?_, fun _ => ⟨vpn (by omega) (by decide), ?_⟩⟩⟩
      · rw [ix_nI (by omega), e3, hL.1, hmany, le_nI (by omega) (by omega)]
        omega
      · rw [show (96 : Int32) = nI 96 from rfl, le_nI (by omega) (by omega)]
        omega
      rw [ix_nI (show i < 2 ^ 31 by omega), hcode]
      rcases hs with ⟨h0, x, hx, hv⟩ | ⟨h1, hn⟩ | ⟨h2, hq⟩
      · rw [if_neg (by rw [h0]; decide), if_neg (by rw [h0]; decide), if_pos h0] at next
        have ec : encS (tWh s t i) (tVa s t i) = nI x := by unfold encS; rw [if_pos h0, hv]
        rw [ec]
        refine ⟨fun h => absurd h ?_, fun _ => ⟨fun h => absurd h n14, fun _ => ⟨vpn (by omega) (by decide), ?_⟩⟩⟩
        · rw [show (10000 : Int32) = nI 10000 from rfl, le_nI (by omega) (by omega)]
          omega
        · rw [p1]
          exact next _ _ rfl (Ag.ua (Ag.rf _ _) (by decide) _) (by rw [um_s, ix_nI (by omega), hp, hv])
      · rw [if_neg (by rw [h1]; decide), if_neg (by rw [h1]; decide), if_neg (by rw [h1]; decide)] at next
        have ec : encS (tWh s t i) (tVa s t i) = 10000 + nmI (tVa s t i) := by unfold encS; rw [if_neg (by rw [h1]; decide), if_pos h1]
        rw [ec]
        have hval : ∀ z : Int32, nmX a b c (ix (tVa s t i)) = z → At l G (d + 4) mX2_valueOf 141 [some (.ref (G.1 1)), some (.int (nI t)), some (.int a), some (.int b), some (.int c), some (.ref (G.1 (7 + t))), some (.int (nI (hgS s t i) + 1)), some (.int (nI i)), none, none] [.int z, .int (nI (hgS s t i)), .ref (G.1 6)] M' R := by
          intro z hz
          refine bX2_valueOf_141 hsc hkc ⟨vpn (by omega) (by decide), ?_⟩
          rw [p1]
          exact next _ _ rfl (Ag.ua (Ag.rf _ _) (by decide) _) (by rw [um_s, ix_nI (by omega), hp, hz])
        have hcase : (tVa s t i = 119 ∨ tVa s t i = 107 ∨ tVa s t i = 115) ∨ (tVa s t i = 97 ∨ tVa s t i = 105 ∨ tVa s t i = 112) ∨ tVa s t i = 111 := by
          unfold nmOk at hn
          rcases hn with ⟨-, h | h | h⟩ | ⟨-, h | h⟩ | ⟨-, h | h⟩ <;> simp [h]
        rcases hcase with h | h | h
        · have en : nmI (tVa s t i) = 0 := by unfold nmI; rw [if_pos h]
          have ez : nmX a b c (ix (tVa s t i)) = a := by rcases h with h | h | h <;> rw [h] <;> rfl
          rw [en]
          refine ⟨fun _ => bX2_valueOf_85 hsc hkc ⟨fun h => absurd h (by decide), fun _ => ⟨fun h => absurd h n14, fun _ => ⟨fun _ => hval a ez, fun h => absurd (by decide) h⟩⟩⟩, fun h => absurd (by decide) h⟩
        · have en : nmI (tVa s t i) = 1 := by unfold nmI; rw [if_neg (by rcases h with h | h | h <;> rw [h] <;> decide), if_pos h]
          have ez : nmX a b c (ix (tVa s t i)) = b := by rcases h with h | h | h <;> rw [h] <;> rfl
          rw [en]
          refine ⟨fun _ => bX2_valueOf_85 hsc hkc ⟨fun h => absurd h (by decide), fun _ => ⟨fun h => absurd h n14, fun _ => ⟨fun h => absurd h (by decide), fun _ => ⟨fun _ => hval b ez, fun h => absurd (by decide) h⟩⟩⟩⟩, fun h => absurd (by decide) h⟩
        · have en : nmI (tVa s t i) = 2 := by unfold nmI; rw [if_neg (by rw [h]; decide), if_neg (by rw [h]; decide)]
          have ez : nmX a b c (ix (tVa s t i)) = c := by rw [h]; rfl
          rw [en]
          refine ⟨fun _ => bX2_valueOf_85 hsc hkc ⟨fun h => absurd h (by decide), fun _ => ⟨fun h => absurd h n14, fun _ => ⟨fun h => absurd h (by decide), fun _ => ⟨fun h => absurd h (by decide), fun _ => hval c ez⟩⟩⟩⟩, fun h => absurd (by decide) h⟩
      · have ec : encS (tWh s t i) (tVa s t i) = 20000 + tVa s t i := by unfold encS; rw [if_neg (by rw [h2]; decide), if_neg (by rw [h2]; decide)]
        rw [ec]
        rw [if_pos h2, if_pos h2] at next
        have to145 : 10000 ≤ 20000 + tVa s t i → 20000 ≤ 20000 + tVa s t i → At l G (d + 4) mX2_valueOf 145 [some (.ref (G.1 1)), some (.int (nI t)), some (.int a), some (.int b), some (.int c), some (.ref (G.1 (7 + t))), some (.int (nI (hgS s t i))), some (.int (nI i)), some (.int (20000 + tVa s t i)), none] [] M' R → (10000 ≤ 20000 + tVa s t i → At l G (d + 4) mX2_valueOf 85 [some (.ref (G.1 1)), some (.int (nI t)), some (.int a), some (.int b), some (.int c), some (.ref (G.1 (7 + t))), some (.int (nI (hgS s t i))), some (.int (nI i)), some (.int (20000 + tVa s t i)), none] [] M' R) := by
          intro _ h20 h145 _
          exact bX2_valueOf_85 hsc hkc ⟨fun _ => h145, fun h => absurd h20 h⟩
        rcases hq with ⟨h33, hh⟩ | ⟨hsg, hh⟩
        · rw [if_pos h33, if_pos h33] at next
          refine ⟨to145 (by rw [h33]; decide) (by rw [h33]; decide) (bX2_valueOf_145 hsc hkc ⟨fun _ => ⟨fun h => absurd h ?_, fun _ => ?_⟩, fun h => absurd (by rw [h33]; decide) h⟩), fun h => absurd (by rw [h33]; decide) h⟩
          · rw [show (0 : Int32) = nI 0 from rfl, le_nI (by omega) (by omega)]
            omega
          · have em : nI (hgS s t i) - 1 = nI (hgS s t i - 1) := pk_sub (a := hgS s t i) (b := 1) hh
            rw [em, ix_nI (by omega), hp]
            have hv : vp_in (nI (hgS s t i - 1)) 96 := vpn (by omega) (by decide)
            refine ⟨hv, fun hz => bX2_valueOf_183 hsc hkc ⟨hv, next _ _ rfl (Ag.ua (Ag.rf _ _) (by decide) _) ?_⟩, fun hz => bX2_valueOf_183 hsc hkc ⟨hv, next _ _ rfl (Ag.ua (Ag.rf _ _) (by decide) _) ?_⟩⟩
            · rw [if_pos hz, um_s, ix_nI (by omega), hp]
            · rw [if_neg hz, um_s, ix_nI (by omega), hp]
        · have h33 : ¬ tVa s t i = 33 := by rcases hsg with h | h | h | h | h | h | h | h | h <;> rw [h] <;> decide
          rw [if_neg h33, if_neg h33] at next
          have hb1 : (10000 : Int32) ≤ 20000 + tVa s t i := by rcases hsg with h | h | h | h | h | h | h | h | h <;> rw [h] <;> decide
          have hb2 : (20000 : Int32) ≤ 20000 + tVa s t i := by rcases hsg with h | h | h | h | h | h | h | h | h <;> rw [h] <;> decide
          have hb3 : ¬ 20000 + tVa s t i = 20033 := by rcases hsg with h | h | h | h | h | h | h | h | h <;> rw [h] <;> decide
          have hb4 : 20000 + tVa s t i - 20000 = tVa s t i := by rcases hsg with h | h | h | h | h | h | h | h | h <;> rw [h] <;> decide
          refine ⟨to145 hb1 hb2 (bX2_valueOf_145 hsc hkc ⟨fun h => absurd h hb3, fun _ => bX2_valueOf_187 hsc hkc ⟨fun h => absurd h ?_, fun _ => ?_⟩⟩), fun h => absurd hb1 h⟩
          · rw [show (1 : Int32) = nI 1 from rfl, le_nI (by omega) (by omega)]
            omega
          · have em : nI (hgS s t i) + (-1) = nI (hgS s t i - 1) := by rw [show hgS s t i = (hgS s t i - 1) + 1 by omega, pk_m1]; rfl
            have em2 : nI (hgS s t i - 1) - 1 = nI (hgS s t i - 2) := by rw [show hgS s t i - 2 = hgS s t i - 1 - 1 by omega]; exact pk_sub (a := hgS s t i - 1) (b := 1) (by omega)
            rw [em, em2, ix_nI (by omega), ix_nI (by omega), hp, hb4]
            refine ⟨vpn (by omega) (by decide), vpn (by omega) (by decide), sX2_joined (by omega) hsg (kI_i (bX2_valueOf_229 hsc hkc ⟨vpn (by omega) (by decide), next _ _ rfl (Ag.ua (Ag.rf _ _) (by decide) _) ?_⟩))⟩
            rw [um_s, ix_nI (by omega), hp]
  exact loop 0 (Nat.zero_le _) M (Ag.rf _ M) rfl
end
