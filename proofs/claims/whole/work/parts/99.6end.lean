-- the end of the constructors: the cells as the layer has them
theorem flds_map (ad : Nat → Nat) (f : Nat → Int32) (fl : List (Option Nat)) : flds ad f 0 fl = fl.mapIdx (fun i o => fvl ad f i o) := by
  apply List.ext_getElem?
  intro i
  rw [List.getElem?_mapIdx]
  cases hi : fl[i]? with
  | none =>
    rw [Option.map_none, List.getElem?_eq_none_iff, flds_len]
    exact List.getElem?_eq_none_iff.mp hi
  | some o =>
    have := flds_at ad f fl 0 i o hi
    rw [Nat.zero_add] at this
    rw [this]
    rfl
theorem dn_end : ∀ k ∈ cks, (shp k).2.2.length ≤ 32 ∧ ∀ i, i < 32 → (shp k).2.2.getD i none ≠ none → dnT 240 k i = true := by decide +kernel
theorem ks_end : ∀ k ∈ cks, k ∈ ksT 240 := by decide +kernel
theorem celT_end {g : GT} {ad : Nat → Nat} {k : Nat} (hk : k ∈ cks) : celT g ad 240 k = cel (ad, g.2) (mT 240) k := by
  obtain ⟨h1, h2⟩ := dn_end k hk
  have h3 : ∀ i j, (shp k).2.2.getD i none = some j → dnT 240 k i = true := by
    intro i j hj
    refine h2 i (Nat.lt_of_not_le (fun q => ?_)) (by rw [hj]; exact fun q => by cases q)
    rw [List.getD_eq_getElem?_getD, List.getElem?_eq_none_iff.mpr (by omega)] at hj
    cases hj
  unfold celT cel
  have e1 : (shp k).2.2.mapIdx (cfv ad 240 k) = flds ad (mT 240 k) 0 (shp k).2.2 := by
    rw [flds_map]
    apply List.ext_getElem?
    intro i
    rw [List.getElem?_mapIdx, List.getElem?_mapIdx]
    cases hi : (shp k).2.2[i]? with
    | none => rfl
    | some o =>
      cases o with
      | none => rfl
      | some j =>
        simp only [Option.map_some, cfv, fvl]
        rw [if_pos (h3 i j (by rw [List.getD_eq_getElem?_getD, hi]; rfl))]
  have e2 : (fun j => if dnT 240 k j = true then ((shp k).2.2.getD j none).map ad else none) = (fun j => ((shp k).2.2.getD j none).map ad) := by
    funext i
    cases hj : (shp k).2.2.getD i none with
    | none => split <;> rfl
    | some j => rw [if_pos (h3 i j hj)]
  rw [e1, e2]
theorem CG_end {g : GT} {N0 : Nat} {ad : Nat → Nat} {H : Heap} (h1 : va_P g.2.1 clz (wt g ad 240) H) (h2 : va_D (fq N0) (wt g ad 240)) : va_P g.2.1 clz (wl (ad, g.2) (mT 240)) H ∧ Dj (ad, g.2) ∧ ∀ k, inK k = true → N0 ≤ ad k := by
  have hD := wt_D.mp h2
  have hP := wt_P.mp h1
  refine ⟨fun q x hx => ?_, fun i j hi hj e => hD.1 i (ks_end i (inK_mem hi)) j (ks_end j (inK_mem hj)) e, fun k hk => hD.2 k (ks_end k (inK_mem hk))⟩
  unfold wl at hx
  rw [List.getElem?_map] at hx
  cases hk : cks[q]? with
  | none => rw [hk] at hx; cases hx
  | some k =>
    rw [hk] at hx
    cases hx
    have hm := List.mem_of_getElem? hk
    have := hP k (ks_end k hm)
    rw [celT_end hm] at this
    exact this
-- the memory at the end
theorem mT_key (k : Nat) : ∀ (l : List Ev) (M : Mem), (l.foldl (fun M e => if e.1 = 2 then um M e.2.1 e.2.2.1 e.2.2.2 else M) M) k = (l.filter (fun e => e.1 == 2 && e.2.1 == k)).foldl (fun f e => upd f e.2.2.1 e.2.2.2) (M k)
  | [], M => rfl
  | e :: l, M => by
    rw [List.foldl_cons, mT_key k l]
    by_cases h1 : e.1 = 2
    · rw [if_pos h1]
      by_cases h2 : e.2.1 = k
      · rw [List.filter_cons_of_pos (by simp [h1, h2]), List.foldl_cons]
        congr 1
        subst h2
        exact ua_s _ _ _
      · rw [List.filter_cons_of_neg (by simp [h2])]
        congr 1
        exact ua_n _ _ (Ne.symm h2)
    · rw [if_neg h1, List.filter_cons_of_neg (by simp [h1])]
def wrT (k : Nat) : List (Nat × Int32) := ((TT.take 240).filter (fun e => e.1 == 2 && e.2.1 == k)).map (fun e => (e.2.2.1, e.2.2.2))
theorem mT_wr (k : Nat) : mT 240 k = (wrT k).foldl (fun f e => upd f e.1 e.2) (fun _ => 0) := by
  unfold mT wrT
  rw [mT_key, List.foldl_map]
theorem m0_z {k : Nat} (h : wrT k = []) : mT 240 k = fun _ => 0 := by rw [mT_wr, h]; rfl
theorem m0_w {k : Nat} {w : List (Nat × Int32)} (h : wrT k = w) : mT 240 k = w.foldl (fun f e => upd f e.1 e.2) (fun _ => 0) := by rw [mT_wr, h]
theorem m0_30 : mT 240 30 = upd (upd (upd (fun _ => 0) 11 60) 12 10) 17 1 := m0_w (k := 30) (w := [(11, 60), (12, 10), (17, 1)]) (by decide +kernel)
theorem m0_38 : mT 240 38 = upd (upd (upd (fun _ => 0) 0 (-1000000005)) 1 (-1000000005)) 2 (-1000000005) := m0_w (k := 38) (w := [(0, -1000000005), (1, -1000000005), (2, -1000000005)]) (by decide +kernel)
theorem m0_101 : mT 240 101 = upd (upd (upd (fun _ => 0) 9 1) 4 60) 5 10 := m0_w (k := 101) (w := [(9, 1), (4, 60), (5, 10)]) (by decide +kernel)
theorem m0_104 : mT 240 104 = upd (upd (upd (upd (fun _ => 0) 0 (-1)) 1 (-1)) 2 (-1)) 3 (-1) := m0_w (k := 104) (w := [(0, -1), (1, -1), (2, -1), (3, -1)]) (by decide +kernel)
theorem m0_sh {j : Nat} (hj : j < 4) : mT 240 (70 + 2 * j) = upd (fun _ => 0) 0 (-1) := m0_w (k := 70 + 2 * j) (w := [(0, -1)]) ((show ∀ j, j < 4 → wrT (70 + 2 * j) = [(0, -1)] by decide +kernel) j hj)
theorem m0_sl {j : Nat} (hj : j < 5) : mT 240 (80 + 3 * j) = upd (fun _ => 0) 0 0 := m0_w (k := 80 + 3 * j) (w := [(0, 0)]) ((show ∀ j, j < 5 → wrT (80 + 3 * j) = [(0, 0)] by decide +kernel) j hj)
theorem m0_o {k : Nat} (hk : k < 120) (h : k ∉ [30, 38, 40, 48, 50, 58, 70, 72, 74, 76, 80, 81, 83, 84, 86, 87, 89, 90, 92, 93, 101, 104]) : mT 240 k = fun _ => 0 := m0_z ((show ∀ k, k < 120 → k ∉ [30, 38, 40, 48, 50, 58, 70, 72, 74, 76, 80, 81, 83, 84, 86, 87, 89, 90, 92, 93, 101, 104] → wrT k = [] by decide +kernel) k hk h)
