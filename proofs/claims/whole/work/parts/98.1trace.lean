-- the constructors: the trace of all that they make and store; a state is a place in it
abbrev Ev : Type := Nat × Nat × Nat × Int32
def TT : List Ev := [(0, 0, 0, 0), (0, 1, 0, 0), (0, 2, 0, 0), (0, 7, 0, 0), (0, 8, 0, 0), (0, 9, 0, 0), (0, 10, 0, 0), (0, 11, 0, 0), (0, 12, 0, 0), (0, 13, 0, 0), (0, 14, 0, 0), (0, 15, 0, 0), (0, 16, 0, 0), (0, 17, 0, 0), (0, 18, 0, 0), (0, 19, 0, 0), (0, 20, 0, 0), (1, 2, 0, 0), (1, 2, 1, 0), (1, 2, 2, 0), (1, 2, 3, 0), (1, 2, 4, 0), (1, 2, 5, 0), (1, 2, 6, 0), (1, 2, 7, 0), (1, 2, 8, 0), (1, 2, 9, 0), (1, 2, 10, 0), (1, 2, 11, 0), (1, 2, 12, 0), (1, 2, 13, 0), (1, 1, 0, 0), (0, 3, 0, 0), (1, 1, 1, 0), (0, 4, 0, 0), (1, 1, 2, 0), (0, 5, 0, 0), (1, 1, 3, 0), (0, 6, 0, 0), (1, 1, 4, 0), (1, 0, 0, 0), (0, 21, 0, 0), (0, 22, 0, 0), (1, 21, 0, 0), (0, 23, 0, 0), (1, 21, 2, 0), (1, 0, 1, 0), (0, 30, 0, 0), (0, 31, 0, 0), (1, 30, 2, 0), (0, 32, 0, 0), (1, 30, 3, 0), (0, 33, 0, 0), (1, 30, 4, 0), (0, 34, 0, 0), (1, 30, 5, 0), (0, 35, 0, 0), (1, 30, 7, 0), (0, 36, 0, 0), (1, 30, 8, 0), (0, 37, 0, 0), (1, 30, 9, 0), (2, 30, 11, 60), (2, 30, 12, 10), (2, 30, 17, 1), (0, 38, 0, 0), (2, 38, 0, -1000000005), (2, 38, 1, -1000000005), (2, 38, 2, -1000000005), (1, 30, 19, 0), (1, 30, 0, 0), (1, 0, 2, 0), (0, 40, 0, 0), (0, 41, 0, 0), (1, 40, 2, 0), (0, 42, 0, 0), (1, 40, 3, 0), (0, 43, 0, 0), (1, 40, 4, 0), (0, 44, 0, 0), (1, 40, 5, 0), (0, 45, 0, 0), (1, 40, 7, 0), (0, 46, 0, 0), (1, 40, 8, 0), (0, 47, 0, 0), (1, 40, 9, 0), (2, 40, 11, 60), (2, 40, 12, 10), (2, 40, 17, 1), (0, 48, 0, 0), (2, 48, 0, -1000000005), (2, 48, 1, -1000000005), (2, 48, 2, -1000000005), (1, 40, 19, 0), (1, 40, 0, 0), (1, 0, 3, 0), (0, 50, 0, 0), (0, 51, 0, 0), (1, 50, 2, 0), (0, 52, 0, 0), (1, 50, 3, 0), (0, 53, 0, 0), (1, 50, 4, 0), (0, 54, 0, 0), (1, 50, 5, 0), (0, 55, 0, 0), (1, 50, 7, 0), (0, 56, 0, 0), (1, 50, 8, 0), (0, 57, 0, 0), (1, 50, 9, 0), (2, 50, 11, 60), (2, 50, 12, 10), (2, 50, 17, 1), (0, 58, 0, 0), (2, 58, 0, -1000000005), (2, 58, 1, -1000000005), (2, 58, 2, -1000000005), (1, 50, 19, 0), (1, 50, 0, 0), (1, 0, 4, 0), (0, 60, 0, 0), (0, 61, 0, 0), (1, 60, 0, 0), (1, 0, 6, 0), (0, 62, 0, 0), (1, 0, 7, 0), (0, 63, 0, 0), (1, 0, 10, 0), (0, 64, 0, 0), (1, 0, 8, 0), (0, 70, 0, 0), (2, 70, 0, -1), (0, 71, 0, 0), (1, 70, 2, 0), (1, 64, 0, 0), (0, 72, 0, 0), (2, 72, 0, -1), (0, 73, 0, 0), (1, 72, 2, 0), (1, 64, 1, 0), (0, 74, 0, 0), (2, 74, 0, -1), (0, 75, 0, 0), (1, 74, 2, 0), (1, 64, 2, 0), (0, 76, 0, 0), (2, 76, 0, -1), (0, 77, 0, 0), (1, 76, 2, 0), (1, 64, 3, 0), (0, 65, 0, 0), (1, 0, 9, 0), (0, 80, 0, 0), (2, 80, 0, 0), (0, 81, 0, 0), (2, 81, 0, -1), (0, 82, 0, 0), (1, 81, 2, 0), (1, 80, 3, 0), (1, 65, 0, 0), (0, 83, 0, 0), (2, 83, 0, 0), (0, 84, 0, 0), (2, 84, 0, -1), (0, 85, 0, 0), (1, 84, 2, 0), (1, 83, 3, 0), (1, 65, 1, 0), (0, 86, 0, 0), (2, 86, 0, 0), (0, 87, 0, 0), (2, 87, 0, -1), (0, 88, 0, 0), (1, 87, 2, 0), (1, 86, 3, 0), (1, 65, 2, 0), (0, 89, 0, 0), (2, 89, 0, 0), (0, 90, 0, 0), (2, 90, 0, -1), (0, 91, 0, 0), (1, 90, 2, 0), (1, 89, 3, 0), (1, 65, 3, 0), (0, 92, 0, 0), (2, 92, 0, 0), (0, 93, 0, 0), (2, 93, 0, -1), (0, 94, 0, 0), (1, 93, 2, 0), (1, 92, 3, 0), (1, 65, 4, 0), (0, 100, 0, 0), (0, 101, 0, 0), (1, 100, 0, 0), (0, 102, 0, 0), (1, 100, 1, 0), (0, 103, 0, 0), (1, 100, 2, 0), (0, 104, 0, 0), (1, 100, 4, 0), (0, 105, 0, 0), (1, 100, 5, 0), (0, 106, 0, 0), (1, 100, 6, 0), (0, 107, 0, 0), (1, 100, 7, 0), (0, 108, 0, 0), (1, 100, 8, 0), (0, 109, 0, 0), (1, 100, 9, 0), (0, 110, 0, 0), (1, 100, 10, 0), (0, 111, 0, 0), (1, 100, 11, 0), (0, 112, 0, 0), (1, 100, 12, 0), (0, 113, 0, 0), (1, 100, 13, 0), (0, 114, 0, 0), (1, 100, 14, 0), (0, 115, 0, 0), (1, 100, 26, 0), (0, 116, 0, 0), (1, 100, 27, 0), (0, 117, 0, 0), (1, 100, 28, 0), (0, 118, 0, 0), (1, 100, 29, 0), (0, 119, 0, 0), (1, 100, 31, 0), (2, 101, 9, 1), (2, 101, 4, 60), (2, 101, 5, 10), (2, 104, 0, -1), (2, 104, 1, -1), (2, 104, 2, -1), (2, 104, 3, -1)]
def ksT (t : Nat) : List Nat := (TT.take t).filterMap (fun e => if e.1 = 0 then some e.2.1 else none)
def dnT (t k i : Nat) : Bool := (TT.take t).any (fun e => e.1 == 1 && (e.2.1 == k && e.2.2.1 == i))
def mT (t : Nat) : Mem := (TT.take t).foldl (fun M e => if e.1 = 2 then um M e.2.1 e.2.2.1 e.2.2.2 else M) (fun _ _ => 0)
theorem tk_succ {t : Nat} {e : Ev} (h : TT[t]? = some e) : TT.take (t + 1) = TT.take t ++ [e] := by rw [List.take_add_one, h]; rfl
theorem ks_new {t k i : Nat} {v : Int32} (h : TT[t]? = some (0, k, i, v)) : ksT (t + 1) = ksT t ++ [k] := by
  unfold ksT
  rw [tk_succ h, List.filterMap_append]
  rfl
theorem ks_oth {t : Nat} {e : Ev} (h : TT[t]? = some e) (h0 : e.1 ≠ 0) : ksT (t + 1) = ksT t := by
  unfold ksT
  rw [tk_succ h, List.filterMap_append]
  simp [h0]
theorem ks_mono {a b : Nat} (h : a ≤ b) {k : Nat} (hk : k ∈ ksT a) : k ∈ ksT b := by
  unfold ksT at hk ⊢
  rw [List.mem_filterMap] at hk ⊢
  obtain ⟨e, h1, h2⟩ := hk
  exact ⟨e, (List.take_subset_take_left TT h) h1, h2⟩
theorem dn_succ {t : Nat} {e : Ev} (h : TT[t]? = some e) (k i : Nat) : dnT (t + 1) k i = (dnT t k i || (e.1 == 1 && (e.2.1 == k && e.2.2.1 == i))) := by
  unfold dnT
  rw [tk_succ h, List.any_append]
  simp
theorem mT_succ {t : Nat} {e : Ev} (h : TT[t]? = some e) : mT (t + 1) = if e.1 = 2 then um (mT t) e.2.1 e.2.2.1 e.2.2.2 else mT t := by
  unfold mT
  rw [tk_succ h, List.foldl_append]
  rfl
theorem ksT_nd (t : Nat) : (ksT t).Nodup := by
  have h : (ksT 240).Nodup := by decide +kernel
  refine List.Nodup.sublist (List.Sublist.filterMap _ ?_) h
  rw [List.take_of_length_le (show TT.length ≤ 240 by decide +kernel)]
  exact List.take_sublist t TT
/-- a cell's new key is nowhere in the trace before -/
def okN (t k : Nat) : Bool := (TT.take t).all (fun e => e.2.1 != k && (e.1 != 1 || (shp e.2.1).2.2.getD e.2.2.1 none != some k))
def okE (t : Nat) : Bool := match TT[t]? with
  | some (0, k, _, _) => okN t k
  | _ => true
theorem okT : ∀ t, t < 240 → okE t = true := by decide +kernel
theorem okN_of {t k i : Nat} {v : Int32} (h : TT[t]? = some (0, k, i, v)) : okN t k = true := by
  have ht : t < 240 := (List.getElem?_eq_some_iff.mp h).1
  have := okT t ht
  unfold okE at this
  rw [h] at this
  exact this
theorem dn_new {t k : Nat} (h : okN t k = true) (i : Nat) : dnT t k i = false := by
  unfold dnT
  rw [List.any_eq_false]
  intro e he
  unfold okN at h
  have := List.all_eq_true.mp h e he
  simp only [Bool.and_eq_true, bne_iff_ne, ne_eq] at this
  simp [this.1]
theorem dn_tgt {t k a i : Nat} (h : okN t k = true) (hd : dnT t a i = true) : (shp a).2.2.getD i none ≠ some k := by
  unfold dnT at hd
  obtain ⟨e, he, h1⟩ := List.any_eq_true.mp hd
  simp only [Bool.and_eq_true, beq_iff_eq] at h1
  obtain ⟨h1, rfl, rfl⟩ := h1
  unfold okN at h
  have := List.all_eq_true.mp h e he
  simp only [Bool.and_eq_true, bne_iff_ne, ne_eq, Bool.or_eq_true] at this
  rcases this.2 with h2 | h2
  · exact absurd h1 h2
  · exact h2
theorem foldl_mT (k : Nat) : ∀ (l : List Ev) (M : Mem), (∀ e ∈ l, e.2.1 ≠ k) → (l.foldl (fun M e => if e.1 = 2 then um M e.2.1 e.2.2.1 e.2.2.2 else M) M) k = M k
  | [], M, h => rfl
  | e :: l, M, h => by
    rw [List.foldl_cons, foldl_mT k l _ (fun x hx => h x (List.mem_cons_of_mem _ hx))]
    split
    · exact ua_n M _ (fun q => h e List.mem_cons_self q.symm)
    · rfl
theorem mT_new {t k : Nat} (h : okN t k = true) : mT t k = fun _ => 0 := by
  unfold mT
  refine (foldl_mT k _ _ (fun e he => ?_)).trans rfl
  unfold okN at h
  have := List.all_eq_true.mp h e he
  simp only [Bool.and_eq_true, bne_iff_ne, ne_eq] at this
  exact this.1
-- the cells at a place of the trace
def cfv (ad : Nat → Nat) (t k i : Nat) (o : Option Nat) : Value := match o with
  | none => .int (mT t k i)
  | some j => if dnT t k i = true then .ref (ad j) else .null
def celT (g : GT) (ad : Nat → Nat) (t k : Nat) : va_E :=
  if (shp k).1 = 0 then .inr ((shp k).2.1, (shp k).2.2.mapIdx (cfv ad t k))
  else if (shp k).1 = 1 then .inl (g.2.2.1 0, (shp k).2.1, .inl (mT t k))
  else .inl (g.2.2.1 ((shp k).1 - 2), (shp k).2.1, .inr (.inr (.inr (.inr (fun j => if dnT t k j = true then ((shp k).2.2.getD j none).map ad else none)))))
def wt (g : GT) (ad : Nat → Nat) (t : Nat) : va_W := (ksT t).map (fun k => (ad k, celT g ad t k))
theorem celT_cong {g : GT} {ad ad' : Nat → Nat} {t t' a : Nat} (h1 : ∀ i, dnT t' a i = dnT t a i) (h2 : mT t' a = mT t a) (h3 : ∀ i j, dnT t a i = true → (shp a).2.2.getD i none = some j → ad' j = ad j) : celT g ad' t' a = celT g ad t a := by
  unfold celT
  have e1 : (shp a).2.2.mapIdx (cfv ad' t' a) = (shp a).2.2.mapIdx (cfv ad t a) := by
    apply List.ext_getElem?
    intro i
    rw [List.getElem?_mapIdx, List.getElem?_mapIdx]
    cases hi : (shp a).2.2[i]? with
    | none => rfl
    | some o =>
      simp only [Option.map_some, Option.some.injEq]
      cases o with
      | none => simp only [cfv]; rw [h2]
      | some j =>
        simp only [cfv]
        rw [h1]
        by_cases hd : dnT t a i = true
        · rw [if_pos hd, if_pos hd, h3 i j hd (by rw [List.getD_eq_getElem?_getD, hi]; rfl)]
        · rw [if_neg hd, if_neg hd]
  have e2 : (fun j => if dnT t' a j = true then ((shp a).2.2.getD j none).map ad' else none) = (fun j => if dnT t a j = true then ((shp a).2.2.getD j none).map ad else none) := by
    funext i
    rw [h1]
    by_cases hd : dnT t a i = true
    · rw [if_pos hd, if_pos hd]
      cases hj : (shp a).2.2.getD i none with
      | none => rfl
      | some j => simp only [Option.map_some]; rw [h3 i j hd hj]
    · rw [if_neg hd, if_neg hd]
  rw [e1, e2, h2]
theorem wt_at (g : GT) (ad : Nat → Nat) {t k : Nat} (h : k ∈ ksT t) : ∃ q : Nat, (wt g ad t)[q]? = some (ad k, celT g ad t k) ∧ ∀ t' : Nat, ksT t' = ksT t → (∀ a, a ≠ k → celT g ad t' a = celT g ad t a) → (wt g ad t).set q (ad k, celT g ad t' k) = wt g ad t' := by
  obtain ⟨q, hq⟩ := List.getElem?_of_mem h
  refine ⟨q, by unfold wt; rw [List.getElem?_map, hq]; rfl, fun t' hks hc => ?_⟩
  apply List.ext_getElem?
  intro i
  rw [List.getElem?_set]
  have hql := (List.getElem?_eq_some_iff.mp hq).1
  by_cases e : q = i
  · subst e
    rw [if_pos rfl, if_pos (by unfold wt; rw [List.length_map]; exact hql)]
    unfold wt
    rw [List.getElem?_map, hks, hq]
    rfl
  · rw [if_neg e]
    unfold wt
    rw [List.getElem?_map, List.getElem?_map, hks]
    cases hi : (ksT t)[i]? with
    | none => rfl
    | some a =>
      have hne : a ≠ k := by
        intro ea
        subst ea
        exact e ((List.getElem?_inj hql (ksT_nd t)).mp (hq.trans hi.symm))
      simp only [Option.map_some]
      rw [hc a hne]
/-- a step that stores touches no other cell -/
theorem celT_oth {g : GT} {ad : Nat → Nat} {t a : Nat} {e : Ev} (h : TT[t]? = some e) (ha : a ≠ e.2.1) : celT g ad (t + 1) a = celT g ad t a := by
  refine celT_cong (fun i => ?_) ?_ (fun _ _ _ _ => rfl)
  · rw [dn_succ h]
    simp [Ne.symm ha]
  · rw [mT_succ h]
    split
    · exact ua_n _ _ ha
    · rfl
def upn (ad : Nat → Nat) (k q : Nat) : Nat → Nat := fun j => if j = k then q else ad j
theorem upn_s (ad : Nat → Nat) (k q : Nat) : upn ad k q k = q := if_pos rfl
theorem upn_n (ad : Nat → Nat) {k j : Nat} (q : Nat) (h : j ≠ k) : upn ad k q j = ad j := if_neg h
theorem ks_ne {t k i : Nat} {v : Int32} (h : TT[t]? = some (0, k, i, v)) {j : Nat} (hj : j ∈ ksT t) : j ≠ k := by
  intro e
  subst e
  unfold ksT at hj
  obtain ⟨e, he, h1⟩ := List.mem_filterMap.mp hj
  have := List.all_eq_true.mp (okN_of h) e he
  simp only [Bool.and_eq_true, bne_iff_ne, ne_eq] at this
  split at h1
  · cases h1; exact this.1 rfl
  · cases h1
def fs0 (fl : List (Option Nat)) : List Value := fl.map (fun o => match o with
  | none => .int 0
  | some _ => .null)
def cel0 (g : GT) (k : Nat) : va_E :=
  if (shp k).1 = 0 then .inr ((shp k).2.1, fs0 (shp k).2.2)
  else if (shp k).1 = 1 then .inl (g.2.2.1 0, (shp k).2.1, .inl (fun _ => 0))
  else .inl (g.2.2.1 ((shp k).1 - 2), (shp k).2.1, .inr (.inr (.inr (.inr (fun _ => none)))))
theorem celT_new {g : GT} {ad : Nat → Nat} {t k i : Nat} {v : Int32} (h : TT[t]? = some (0, k, i, v)) : celT g ad (t + 1) k = cel0 g k := by
  have hN := okN_of h
  have h1 : ∀ i, dnT (t + 1) k i = false := fun i => by rw [dn_succ h, dn_new hN]; rfl
  have h2 : mT (t + 1) k = fun _ => 0 := by rw [mT_succ h]; exact mT_new hN
  unfold celT cel0
  have e1 : (shp k).2.2.mapIdx (cfv ad (t + 1) k) = fs0 (shp k).2.2 := by
    apply List.ext_getElem?
    intro i
    unfold fs0
    rw [List.getElem?_mapIdx, List.getElem?_map]
    cases hi : (shp k).2.2[i]? with
    | none => rfl
    | some o =>
      cases o with
      | none => simp only [Option.map_some, cfv]; rw [h2]
      | some j => simp only [Option.map_some, cfv]; rw [h1]; rfl
  rw [e1, h2]
  have e2 : (fun j => if dnT (t + 1) k j = true then ((shp k).2.2.getD j none).map ad else none) = (fun _ => none) := by
    funext i
    rw [h1]
    rfl
  rw [e2]
theorem wt_new {g : GT} {ad : Nat → Nat} {t k i : Nat} {v : Int32} (h : TT[t]? = some (0, k, i, v)) (q : Nat) : wt g (upn ad k q) (t + 1) = wt g ad t ++ [(q, cel0 g k)] := by
  have hN := okN_of h
  unfold wt
  rw [ks_new h, List.map_append]
  congr 1
  · apply List.map_congr_left
    intro a ha
    have hne := ks_ne h ha
    rw [upn_n ad q hne]
    congr 1
    refine celT_cong (fun i => ?_) ?_ (fun i j hd hj => ?_)
    · rw [dn_succ h]; simp
    · rw [mT_succ h]; rfl
    · exact upn_n ad q (fun e => dn_tgt hN hd (by rw [hj, e]))
  · simp only [List.map_cons, List.map_nil]
    rw [upn_s, celT_new h]
theorem wt_P {g : GT} {ad : Nat → Nat} {t : Nat} {H : Heap} : va_P g.2.1 clz (wt g ad t) H ↔ ∀ k ∈ ksT t, va_at g.2.1 clz (ad k, celT g ad t k) H := by
  constructor
  · intro h k hk
    obtain ⟨q, hq, -⟩ := wt_at g ad hk
    exact h q _ hq
  · intro h q x hx
    unfold wt at hx
    rw [List.getElem?_map] at hx
    cases hi : (ksT t)[q]? with
    | none => rw [hi] at hx; cases hx
    | some a => rw [hi] at hx; cases hx; exact h a (List.mem_of_getElem? hi)
theorem wt_D {g : GT} {ad : Nat → Nat} {t : Nat} {A : Nat → Prop} : va_D A (wt g ad t) ↔ (∀ i ∈ ksT t, ∀ j ∈ ksT t, ad i = ad j → i = j) ∧ ∀ i ∈ ksT t, A (ad i) := by
  constructor
  · intro h
    refine ⟨fun i hi j hj e => ?_, fun i hi => ?_⟩
    · obtain ⟨a, ha⟩ := List.getElem?_of_mem hi
      obtain ⟨b, hb⟩ := List.getElem?_of_mem hj
      have := h.1 a b _ _ (show (wt g ad t)[a]? = some (ad i, celT g ad t i) by unfold wt; rw [List.getElem?_map, ha]; rfl) (show (wt g ad t)[b]? = some (ad j, celT g ad t j) by unfold wt; rw [List.getElem?_map, hb]; rfl) e
      subst this
      exact Option.some.inj (ha.symm.trans hb)
    · obtain ⟨q, hq, -⟩ := wt_at g ad hi
      exact h.2 q _ hq
  · intro h
    refine ⟨fun i j p q hi hj e => ?_, fun k q hk => ?_⟩
    · unfold wt at hi hj
      rw [List.getElem?_map] at hi hj
      cases hi2 : (ksT t)[i]? with
      | none => rw [hi2] at hi; cases hi
      | some a =>
        cases hj2 : (ksT t)[j]? with
        | none => rw [hj2] at hj; cases hj
        | some b =>
          rw [hi2] at hi
          rw [hj2] at hj
          cases hi
          cases hj
          have := h.1 a (List.mem_of_getElem? hi2) b (List.mem_of_getElem? hj2) e
          subst this
          exact (List.getElem?_inj (List.getElem?_eq_some_iff.mp hi2).1 (ksT_nd t)).mp (hi2.trans hj2.symm)
    · unfold wt at hk
      rw [List.getElem?_map] at hk
      cases hk2 : (ksT t)[k]? with
      | none => rw [hk2] at hk; cases hk
      | some a => rw [hk2] at hk; cases hk; exact h.2 a (List.mem_of_getElem? hk2)
