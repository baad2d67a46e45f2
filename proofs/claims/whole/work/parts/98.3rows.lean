-- the constructors: rows of memory
theorem celT_o {g : GT} {ad : Nat → Nat} {t k ci : Nat} {fl : List (Option Nat)} (h : shp k = (0, ci, fl)) : celT g ad t k = .inr (ci, fl.mapIdx (cfv ad t k)) := by
  unfold celT
  rw [h]
  rfl
theorem celT_i {g : GT} {ad : Nat → Nat} {t k n : Nat} {fl : List (Option Nat)} (h : shp k = (1, n, fl)) : celT g ad t k = .inl (g.2.2.1 0, n, .inl (mT t k)) := by
  unfold celT
  rw [h]
  rfl
theorem celT_q {g : GT} {ad : Nat → Nat} {t k q n : Nat} {fl : List (Option Nat)} (h : shp k = (q + 2, n, fl)) : celT g ad t k = .inl (g.2.2.1 q, n, .inr (.inr (.inr (.inr (fun j => if dnT t k j = true then (fl.getD j none).map ad else none))))) := by
  unfold celT
  rw [h, if_neg (by simp), if_neg (by simp)]
  rfl
theorem cel_putR {g : GT} {ad : Nat → Nat} {t k i j ci : Nat} {z : Int32} {fl : List (Option Nat)} (hev : TT[t]? = some (1, k, i, z)) (hsh : shp k = (0, ci, fl)) (ho : fl[i]? = some (some j)) : celT g ad (t + 1) k = .inr (ci, (fl.mapIdx (cfv ad t k)).set i (.ref (ad j))) := by
  rw [celT_o hsh]
  congr 2
  have hm : mT (t + 1) = mT t := by rw [mT_succ hev]; rfl
  apply List.ext_getElem?
  intro a
  rw [List.getElem?_mapIdx, List.getElem?_set]
  by_cases ha : i = a
  · subst ha
    rw [if_pos rfl, if_pos (by rw [List.length_mapIdx]; exact (List.getElem?_eq_some_iff.mp ho).1), ho]
    simp only [Option.map_some, cfv]
    rw [dn_succ hev]
    simp
  · rw [if_neg ha, List.getElem?_mapIdx]
    congr 1
    funext x
    cases x with
    | none => simp only [cfv]; rw [hm]
    | some b => simp only [cfv]; rw [dn_succ hev]; simp [ha]
theorem cel_putI {g : GT} {ad : Nat → Nat} {t k i ci : Nat} {x : Int32} {fl : List (Option Nat)} (hev : TT[t]? = some (2, k, i, x)) (hsh : shp k = (0, ci, fl)) (ho : fl[i]? = some none) : celT g ad (t + 1) k = .inr (ci, (fl.mapIdx (cfv ad t k)).set i (.int x)) := by
  rw [celT_o hsh]
  congr 2
  have hm : mT (t + 1) = um (mT t) k i x := by rw [mT_succ hev]; rfl
  apply List.ext_getElem?
  intro a
  rw [List.getElem?_mapIdx, List.getElem?_set]
  by_cases ha : i = a
  · subst ha
    rw [if_pos rfl, if_pos (by rw [List.length_mapIdx]; exact (List.getElem?_eq_some_iff.mp ho).1), ho]
    simp only [Option.map_some, cfv]
    rw [hm]
    show some (Value.int (ua (mT t) k (upd (mT t k) i x) k i)) = _
    rw [ua_s, pk_us]
  · rw [if_neg ha, List.getElem?_mapIdx]
    congr 1
    funext x
    cases x with
    | none => simp only [cfv]; rw [hm]; show Value.int (ua (mT t) k (upd (mT t k) i x) k a) = _; rw [ua_s, pk_un (fun h => ha h.symm)]
    | some b => simp only [cfv]; rw [dn_succ hev]; simp
theorem c_get {l : Launch} {g : GT} {N0 d mc ms : Nat} {y : MT} {tE pc n : Nat} {vs : List (Option Value)} {st : List Value} {t : Nat} {ad : Nat → Nat} {cs ss : Nat} {idx k ci i : Nat} {fl : List (Option Nat)} {Cn : String} {T : u_T} {N : Nat} {j : Nat} (hd : De y pc (.getfield idx) 3 n) (hsh : shp k = (0, ci, fl)) (hk : k ∈ ksT t) (hc2 : clz[ci]? = some (Cn, T, N)) (hi : i < N) (hin : ∀ w ∈ u_ws Cn T N, w ∈ lw_tblg) (hw : Cond.fieldLink y.1.cls idx (T i).1 (T i).2.1 (T i).2.2.1 ∈ lw_tblg) (ho : fl[i]? = some (some j)) (hdn : dnT t k i = true) (kk : AC l g N0 d mc ms y tE n vs (.ref (ad j) :: st) t ad cs ss) : AC l g N0 d mc ms y tE pc vs (.ref (ad k) :: st) t ad cs ss := by
  obtain ⟨hd, rfl⟩ := hd
  intro p e s m args below meth c hc H locs ls hP hD hS hl hn
  obtain ⟨hx, hb, hr, hml, hown, hts, hlocks, hK, hC, hN0, hnm0⟩ := id hc
  obtain ⟨q, hq, -⟩ := wt_at g ad hk
  rw [celT_o hsh] at hq
  have hf : (fl.mapIdx (cfv ad t k))[i]? = some (.ref (ad j)) := by rw [List.getElem?_mapIdx, ho]; simp only [Option.map_some, cfv]; rw [if_pos hdn]
  exact va_get (D := g.2.1) (C := Cn) (T := T) (N := N) hx hb hts (fun w h => List.mem_cons_of_mem _ (hin w h)) hown hK hP q hq hc2 i hi (hts _ (List.mem_cons_of_mem _ hw)) (fun _ h9 => h9) hf hd (kk p e s m args below meth c hc H locs ls hP hD hS hl hn)
theorem c_put {l : Launch} {g : GT} {N0 d mc ms : Nat} {y : MT} {tE pc n : Nat} {vs : List (Option Value)} {st : List Value} {t : Nat} {ad : Nat → Nat} {cs ss : Nat} {idx k ci i : Nat} {fl : List (Option Nat)} {Cn : String} {T : u_T} {N : Nat} {v : Value} {e0 : Ev} (hd : De y pc (.putfield idx) 3 n) (hsh : shp k = (0, ci, fl)) (hk : k ∈ ksT t) (hc2 : clz[ci]? = some (Cn, T, N)) (hi : i < N) (hin : ∀ w ∈ u_ws Cn T N, w ∈ lw_tblg) (ty0 : Nat → FieldType) (hty : ∀ k, k < N → parseFieldDescriptor (T k).2.2.1 = some (ty0 k)) (hnm : ∀ a, a < N → ∀ b, b < N → a ≠ b → (T a).2.1 ≠ (T b).2.1) (hw : Cond.fieldLink y.1.cls idx (T i).1 (T i).2.1 (T i).2.2.1 ∈ lw_tblg) (hlen : i < fl.length) (hfin : (T i).2.2.2 = false) {ty : FieldType} (hpd : parseFieldDescriptor (T i).2.2.1 = some ty) (hnar : narrow ty v = v) (hfit : fits ty v = true)
    (hev : TT[t]? = some e0) (hek : e0.1 ≠ 0 ∧ e0.2.1 = k) (hcel : celT g ad (t + 1) k = .inr (ci, (fl.mapIdx (cfv ad t k)).set i v)) (kk : AC l g N0 d mc ms y tE n vs st (t + 1) ad cs ss) : AC l g N0 d mc ms y tE pc vs (v :: .ref (ad k) :: st) t ad cs ss := by
  obtain ⟨hd, rfl⟩ := hd
  intro p e s m args below meth c hc H locs ls hP hD hS hl hn
  obtain ⟨hx, hb, hr, hml, hown, hts, hlocks, hK, hC, hN0, hnm0⟩ := id hc
  obtain ⟨q, hq, hset⟩ := wt_at g ad hk
  have hks : ksT (t + 1) = ksT t := ks_oth hev hek.1
  have hset := hset (t + 1) hks (fun a ha => celT_oth hev (by rw [hek.2]; exact ha))
  rw [celT_o hsh] at hq
  rw [hcel] at hset
  refine W_mono (fun _ => MQ_mono (fun _ _ => QC.mono (t' := t + 1) (ad' := ad) (Nat.le_succ t) (fun _ _ => rfl))) ?_
  exact va_put (D := g.2.1) (C := Cn) (T := T) (N := N) hx hb hts (fun w h => List.mem_cons_of_mem _ (hin w h)) ty0 hty hnm hown hK hP hD hS q hq hc2 i hi (hts _ (List.mem_cons_of_mem _ hw)) (fun _ h9 => h9) hfin  hpd hnar hfit (by rw [List.length_mapIdx]; exact hlen) hd (fun H1 locs1 hP1 hD1 hS1 => kk p e s m args below meth c hc H1 locs1 ls (by rw [hset] at hP1; exact hP1) (by rw [hset] at hD1; exact hD1) hS1 hl hn)
theorem c_putF {l : Launch} {g : GT} {N0 d mc ms : Nat} {y : MT} {tE pc n : Nat} {vs : List (Option Value)} {st : List Value} {t : Nat} {ad : Nat → Nat} {cs ss : Nat} {idx k ci i : Nat} {fl : List (Option Nat)} {Cn : String} {T : u_T} {N : Nat} {v : Value} {e0 : Ev} (hd : De y pc (.putfield idx) 3 n) (hsh : shp k = (0, ci, fl)) (hk : k ∈ ksT t) (hc2 : clz[ci]? = some (Cn, T, N)) (hi : i < N) (hin : ∀ w ∈ u_ws Cn T N, w ∈ lw_tblg) (ty0 : Nat → FieldType) (hty : ∀ k, k < N → parseFieldDescriptor (T k).2.2.1 = some (ty0 k)) (hnm : ∀ a, a < N → ∀ b, b < N → a ≠ b → (T a).2.1 ≠ (T b).2.1) (hw : Cond.fieldLink y.1.cls idx (T i).1 (T i).2.1 (T i).2.2.1 ∈ lw_tblg) (hlen : i < fl.length) (hfin : (T i).2.2.2 = true) (hdecl : (T i).1 = y.1.cls) (hini : y.1.name = "<init>") {ty : FieldType} (hpd : parseFieldDescriptor (T i).2.2.1 = some ty) (hnar : narrow ty v = v) (hfit : fits ty v = true)
    (hev : TT[t]? = some e0) (hek : e0.1 ≠ 0 ∧ e0.2.1 = k) (hcel : celT g ad (t + 1) k = .inr (ci, (fl.mapIdx (cfv ad t k)).set i v)) (kk : AC l g N0 d mc ms y tE n vs st (t + 1) ad cs ss) : AC l g N0 d mc ms y tE pc vs (v :: .ref (ad k) :: st) t ad cs ss := by
  obtain ⟨hd, rfl⟩ := hd
  intro p e s m args below meth c hc H locs ls hP hD hS hl hn
  obtain ⟨hx, hb, hr, hml, hown, hts, hlocks, hK, hC, hN0, hnm0⟩ := id hc
  obtain ⟨q, hq, hset⟩ := wt_at g ad hk
  have hks : ksT (t + 1) = ksT t := ks_oth hev hek.1
  have hset := hset (t + 1) hks (fun a ha => celT_oth hev (by rw [hek.2]; exact ha))
  rw [celT_o hsh] at hq
  rw [hcel] at hset
  refine W_mono (fun _ => MQ_mono (fun _ _ => QC.mono (t' := t + 1) (ad' := ad) (Nat.le_succ t) (fun _ _ => rfl))) ?_
  exact va_putF (D := g.2.1) (C := Cn) (T := T) (N := N) hx hb hts (fun w h => List.mem_cons_of_mem _ (hin w h)) ty0 hty hnm hown hK hP hD hS q hq hc2 i hi (hts _ (List.mem_cons_of_mem _ hw)) (fun _ h9 => h9) hfin (hnm0.trans hini) hdecl hpd hnar hfit (by rw [List.length_mapIdx]; exact hlen) hd (fun H1 locs1 hP1 hD1 hS1 => kk p e s m args below meth c hc H1 locs1 ls (by rw [hset] at hP1; exact hP1) (by rw [hset] at hD1; exact hD1) hS1 hl hn)
theorem c_iast {l : Launch} {g : GT} {N0 d mc ms : Nat} {y : MT} {tE pc n : Nat} {vs : List (Option Value)} {st : List Value} {t : Nat} {ad : Nat → Nat} {cs ss : Nat} {k len : Nat} {i x : Int32} (hd : De y pc .iastore 1 n) (hsh : shp k = (1, len, [])) (hk : k ∈ ksT t) (hi : vp_in i len) (hev : TT[t]? = some (2, k, i.toNatClampNeg, x)) (kk : AC l g N0 d mc ms y tE n vs st (t + 1) ad cs ss) : AC l g N0 d mc ms y tE pc vs (.int x :: .int i :: .ref (ad k) :: st) t ad cs ss := by
  obtain ⟨hd, rfl⟩ := hd
  intro p e s m args below meth c hc H locs ls hP hD hS hl hn
  obtain ⟨hx, hb, hr, hml, hown, hts, hlocks, hK, hC, hN0, hnm0⟩ := id hc
  obtain ⟨q, hq, hset⟩ := wt_at g ad hk
  have hset := hset (t + 1) (ks_oth hev (by simp)) (fun a ha => celT_oth hev ha)
  rw [celT_i hsh] at hq
  have hm : mT (t + 1) k = upd (mT t k) i.toNatClampNeg x := by rw [mT_succ hev, if_pos rfl]; exact ua_s _ _ _
  rw [celT_i hsh, hm] at hset
  refine W_mono (fun _ => MQ_mono (fun _ _ => QC.mono (t' := t + 1) (ad' := ad) (Nat.le_succ t) (fun _ _ => rfl))) ?_
  exact va_iast hx hb hK hP hD hS q 0 hq rfl hi hd (fun H1 locs1 hP1 hD1 hS1 => kk p e s m args below meth c hc H1 locs1 ls (by rw [hset] at hP1; exact hP1) (by rw [hset] at hD1; exact hD1) hS1 hl hn)
theorem c_aast {l : Launch} {g : GT} {N0 d mc ms : Nat} {y : MT} {tE pc n : Nat} {vs : List (Option Value)} {st : List Value} {t : Nat} {ad : Nat → Nat} {cs ss : Nat} {k len q0 j cj : Nat} {fl flj : List (Option Nat)} {i z : Int32} {r : vw_C} (hd : De y pc .aastore 1 n) (hsh : shp k = (q0 + 2, len, fl)) (hk : k ∈ ksT t) (hshj : shp j = (0, cj, flj)) (hj : j ∈ ksT t) (hcj : clz[cj]? = some r) (ht : (tyz g)[q0]? = some (g.2.2.1 q0, .object r.1)) (hi : vp_in i len) (ho : fl.getD i.toNatClampNeg none = some j) (hev : TT[t]? = some (1, k, i.toNatClampNeg, z)) (kk : AC l g N0 d mc ms y tE n vs st (t + 1) ad cs ss) : AC l g N0 d mc ms y tE pc vs (.ref (ad j) :: .int i :: .ref (ad k) :: st) t ad cs ss := by
  obtain ⟨hd, rfl⟩ := hd
  intro p e s m args below meth c hc H locs ls hP hD hS hl hn
  obtain ⟨hx, hb, hr, hml, hown, hts, hlocks, hK, hC, hN0, hnm0⟩ := id hc
  obtain ⟨q, hq, hset⟩ := wt_at g ad hk
  obtain ⟨qj, hqj, -⟩ := wt_at g ad hj
  have hset := hset (t + 1) (ks_oth hev (by simp)) (fun a ha => celT_oth hev ha)
  rw [celT_q hsh] at hq
  rw [celT_o hshj] at hqj
  have hf : (fun b => if dnT (t + 1) k b = true then (fl.getD b none).map ad else none) = va_up (fun b => if dnT t k b = true then (fl.getD b none).map ad else none) i.toNatClampNeg (some (ad j)) := by
    funext b
    unfold va_up
    rw [dn_succ hev]
    by_cases hbi : b = i.toNatClampNeg
    · subst hbi
      simp only [beq_self_eq_true, Bool.and_self, Bool.or_true, if_true]
      rw [ho]
      rfl
    · rw [if_neg hbi]
      simp [Ne.symm hbi]
  rw [celT_q hsh, hf] at hset
  refine W_mono (fun _ => MQ_mono (fun _ _ => QC.mono (t' := t + 1) (ad' := ad) (Nat.le_succ t) (fun _ _ => rfl))) ?_
  exact va_astq hx hb hK hP hD hS q q0 qj cj hq ht hqj hcj hi hd (fun H1 locs1 hP1 hD1 hS1 => kk p e s m args below meth c hc H1 locs1 ls (by rw [hset] at hP1; exact hP1) (by rw [hset] at hD1; exact hD1) hS1 hl hn)
theorem c_new {l : Launch} {g : GT} {N0 d mc ms : Nat} {y : MT} {tE pc n : Nat} {vs : List (Option Value)} {st : List Value} {t : Nat} {ad : Nat → Nat} {cs ss : Nat} {idx k ci i : Nat} {z : Int32} {fl : List (Option Nat)} {Cn : String} {T : u_T} {N : Nat} (hd : De y pc (.new idx) 3 n) (hsh : shp k = (0, ci, fl)) (hc2 : clz[ci]? = some (Cn, T, N)) (hin : ∀ w ∈ u_ws Cn T N, w ∈ lw_tblg) (ty0 : Nat → FieldType) (hty : ∀ k, k < N → parseFieldDescriptor (T k).2.2.1 = some (ty0 k)) (hw : Cond.classLink y.1.cls idx Cn ∈ lw_tblg) (hins : Cond.instantiable Cn N ∈ lw_tblg) (hini : Cond.initialized Cn ∈ lw_tblg) (hfs : ∀ j, j < N → defaultValue (ty0 j) = vp_V (fs0 fl) j) (hcs : cs + 1 ≤ mc) (hss : ss + N ≤ ms) (hev : TT[t]? = some (0, k, i, z))
    (kk : ∀ ad' : Nat → Nat, (∀ j ∈ ksT t, ad' j = ad j) → AC l g N0 d mc ms y tE n vs (.ref (ad' k) :: st) (t + 1) ad' (cs + 1) (ss + N)) : AC l g N0 d mc ms y tE pc vs st t ad cs ss := by
  obtain ⟨hd, rfl⟩ := hd
  intro p e s m args below meth c hc H locs ls hP hD hS hl hn
  obtain ⟨hx, hb, hr, hml, hown, hts, hlocks, hK, hC, hN0, hnm0⟩ := id hc
  have hmem : ∀ w, w ∈ lw_tblg → w.before args s = true := fun w h => hts _ (List.mem_cons_of_mem _ h)
  refine va_new (D := g.2.1) (C := Cn) (T := T) (N := N) hx hb hts (fun w h => List.mem_cons_of_mem _ (hin w h)) ty0 hty hown (hmem _ hw) (hmem _ hins) (hmem _ hini) hK hP hD hS (fun q hq => Nat.le_trans hN0 hq) hc2 hfs hcs hss hd (fun q H1 hP1 hD1 hS1 => ?_)
  have hw1 := wt_new (g := g) (ad := ad) hev q
  have hc0 : cel0 g k = .inr (ci, fs0 fl) := by unfold cel0; rw [hsh]; rfl
  rw [hc0] at hw1
  rw [← hw1] at hP1 hD1
  have hk : ∀ j ∈ ksT t, upn ad k q j = ad j := fun j hj => upn_n ad q (ks_ne hev hj)
  refine W_mono (fun _ => MQ_mono (fun _ _ => QC.mono (Nat.le_succ t) hk)) ?_
  have := kk _ hk p e s m args below meth c hc H1 locs ls hP1 hD1 hS1 hl hn
  rw [upn_s] at this
  exact this
theorem c_newa {l : Launch} {g : GT} {N0 d mc ms : Nat} {y : MT} {tE pc n : Nat} {vs : List (Option Value)} {st : List Value} {t : Nat} {ad : Nat → Nat} {cs ss : Nat} {k N i : Nat} {z v : Int32} {fl : List (Option Nat)} (hd : De y pc (.newarray .int) 2 n) (hsh : shp k = (1, N, fl)) (hn2 : ¬ v < 0) (hN : v.toNatClampNeg = N) (hbytes : N * 4 ≤ 536870912) (hcs : cs + 1 ≤ mc) (hss : ss + N ≤ ms) (hev : TT[t]? = some (0, k, i, z))
    (kk : ∀ ad' : Nat → Nat, (∀ j ∈ ksT t, ad' j = ad j) → AC l g N0 d mc ms y tE n vs (.ref (ad' k) :: st) (t + 1) ad' (cs + 1) (ss + N)) : AC l g N0 d mc ms y tE pc vs (.int v :: st) t ad cs ss := by
  obtain ⟨hd, rfl⟩ := hd
  intro p e s m args below meth c hc H locs ls hP hD hS hl hn
  obtain ⟨hx, hb, hr, hml, hown, hts, hlocks, hK, hC, hN0, hnm0⟩ := id hc
  have hmem : ∀ w, w ∈ lw_tblg → w.before args s = true := fun w h => hts _ (List.mem_cons_of_mem _ h)
  refine va_newa (D := g.2.1) (a0 := (N, .inl (fun _ => 0))) (ty := .int) (atype := .int) hx hb (hmem _ ac_i) rfl hK hP hD hS (fun q hq => Nat.le_trans hN0 hq) (fun cA => rfl) hn2 hN hbytes hcs hss hd (fun q cA H1 hK1 hP1 hD1 hS1 => ?_)
  have hcA : cA = g.2.2.1 0 := by
    have h1 := (hK1.2 4 (cA, .int) rfl).2
    have h2 := (hK.2 0 (g.2.2.1 0, .int) rfl).2
    exact Option.some.inj (h1.symm.trans h2)
  subst hcA
  have hw1 := wt_new (g := g) (ad := ad) hev q
  have hc0 : cel0 g k = .inl (g.2.2.1 0, N, .inl (fun _ => 0)) := by unfold cel0; rw [hsh]; rfl
  rw [hc0] at hw1
  rw [← hw1] at hP1 hD1
  have hk : ∀ j ∈ ksT t, upn ad k q j = ad j := fun j hj => upn_n ad q (ks_ne hev hj)
  refine W_mono (fun _ => MQ_mono (fun _ _ => QC.mono (Nat.le_succ t) hk)) ?_
  have := kk _ hk p e s m args below meth c hc H1 locs ls hP1 hD1 hS1 hl hn
  rw [upn_s] at this
  exact this
theorem c_newq {l : Launch} {g : GT} {N0 d mc ms : Nat} {y : MT} {tE pc n : Nat} {vs : List (Option Value)} {st : List Value} {t : Nat} {ad : Nat → Nat} {cs ss : Nat} {idx k q0 N i : Nat} {z v : Int32} {fl : List (Option Nat)} {Cn : String} (hd : De y pc (.anewarray idx) 3 n) (hsh : shp k = (q0 + 2, N, fl)) (ht : (tyz g)[q0]? = some (g.2.2.1 q0, .object Cn)) (hw : Cond.classLink y.1.cls idx Cn ∈ lw_tblg) (hao : ∀ U : State, KN U → va_AO Cn U) (hn2 : ¬ v < 0) (hN : v.toNatClampNeg = N) (hbytes : N * 4 ≤ 536870912) (hcs : cs + 1 ≤ mc) (hss : ss + N ≤ ms) (hev : TT[t]? = some (0, k, i, z))
    (kk : ∀ ad' : Nat → Nat, (∀ j ∈ ksT t, ad' j = ad j) → AC l g N0 d mc ms y tE n vs (.ref (ad' k) :: st) (t + 1) ad' (cs + 1) (ss + N)) : AC l g N0 d mc ms y tE pc vs (.int v :: st) t ad cs ss := by
  obtain ⟨hd, rfl⟩ := hd
  intro p e s m args below meth c hc H locs ls hP hD hS hl hn
  obtain ⟨hx, hb, hr, hml, hown, hts, hlocks, hK, hC, hN0, hnm0⟩ := id hc
  have hmem : ∀ w, w ∈ lw_tblg → w.before args s = true := fun w h => hts _ (List.mem_cons_of_mem _ h)
  refine va_newq (D := g.2.1) hx hb hown (hmem _ hw) (hao s hC) hK hP hD hS (fun q hq => Nat.le_trans hN0 hq) hn2 hN hbytes hcs hss hd (fun q cA H1 hK1 hP1 hD1 hS1 => ?_)
  have hcA : cA = g.2.2.1 q0 := by
    obtain ⟨_, _, _, _, _, h1⟩ := (hK1.2 4 (cA, .object Cn) rfl).2
    obtain ⟨_, _, _, _, _, h2⟩ := (hK.2 q0 (g.2.2.1 q0, .object Cn) ht).2
    exact Option.some.inj (h1.symm.trans h2)
  subst hcA
  have hw1 := wt_new (g := g) (ad := ad) hev q
  have hc0 : cel0 g k = .inl (g.2.2.1 q0, N, .inr (.inr (.inr (.inr (fun _ => none))))) := by unfold cel0; rw [hsh, if_neg (by simp), if_neg (by simp)]; rfl
  rw [hc0] at hw1
  rw [← hw1] at hP1 hD1
  have hk : ∀ j ∈ ksT t, upn ad k q j = ad j := fun j hj => upn_n ad q (ks_ne hev hj)
  refine W_mono (fun _ => MQ_mono (fun _ _ => QC.mono (Nat.le_succ t) hk)) ?_
  have := kk _ hk p e s m args below meth c hc H1 locs ls hP1 hD1 hS1 hl hn
  rw [upn_s] at this
  exact this
theorem c_obj {l : Launch} {g : GT} {N0 d mc ms : Nat} {y : MT} {tE pc n : Nat} {vs : List (Option Value)} {st : List Value} {t : Nat} {ad : Nat → Nat} {cs ss : Nat} {idx a : Nat} (hd : De y pc (.invokespecial idx) 3 n) (hw : Cond.methodLink y.1.cls idx Lib.objectInit ∈ lw_tblg) (hdep : 1 ≤ d) (hst : (st.map fun v => v.category).sum ≤ 8) (kk : AC l g N0 d mc ms y tE n vs st t ad cs ss) : AC l g N0 d mc ms y tE pc vs (.ref a :: st) t ad cs ss := by
  obtain ⟨hd, rfl⟩ := hd
  intro p e s m args below meth c hc H locs ls hP hD hS hl hn
  obtain ⟨hx, hb, hr, hml, hown, hts, hlocks, hK, hC, hN0, hnm0⟩ := id hc
  have hmem : ∀ w, w ∈ lw_tblg → w.before args s = true := fun w h => hts _ (List.mem_cons_of_mem _ h)
  refine W.objInit hx hb hown (hmem _ hw) (hmem _ om_i) (hmem _ om_c) rfl (by rw [hml]; exact hl.1.trans hn) rfl hd (by show 1 ≤ d; exact hdep) (by have := lv_room (m := m) (pc := pc) (ls := ls) (rest := Value.ref a :: st) hst; show _ ≤ 40 * d; omega) ?_
  exact kk p e s m args below meth c hc H locs ls hP hD hS hl hn
theorem c_ret {l : Launch} {g : GT} {N0 d mc ms : Nat} {y : MT} {tE pc n : Nat} {vs : List (Option Value)} {st : List Value} {t : Nat} {ad : Nat → Nat} {cs ss : Nat} (hd : De y pc .return_ 1 n) (hty : y.2.2.2 = none) (h1 : cs = mc) (h2 : ss = ms) (h3 : t = tE) : AC l g N0 d mc ms y tE pc vs [] t ad cs ss := by
  subst h1
  subst h2
  subst h3
  obtain ⟨hd, rfl⟩ := hd
  intro p e s m args below meth c hc H locs ls hP hD hS hl hn
  obtain ⟨hx, hb, hr, hml, hown, hts, hlocks, hK, hC, hN0, hnm0⟩ := id hc
  exact W.vret hx hb (hr.trans hty) (fun U hU hW => ⟨⟨ad, rfl, fun _ _ => rfl, by rw [hU]; exact hP, hD, va_K.moved hW.alike hK, hC.warm hW, by rw [hU]; exact Nat.le_trans hN0 hS.1⟩, hS.F hU⟩) hS.2.2 hd
theorem c_call {l : Launch} {g : GT} {N0 d mc ms : Nat} {y : MT} {tE pc : Nat} {vs : List (Option Value)} {st stk : List Value} {t : Nat} {ad : Nat → Nat} {cs ss : Nat} {d' mc' ms' t1 : Nat} {y' : MT} {av : List Value} (hT : TrC l g N0 d' mc' ms' y' av t t1 ad) (ht : t ≤ t1)
    (kk : ∀ ad' : Nat → Nat, (∀ j ∈ ksT t, ad' j = ad j) → AC l g N0 d mc ms y tE (pc + 3) vs st t1 ad' (cs + mc') (ss + ms'))
    (hrun : ∀ (p : Program) (e : Env) (s : State) (m : MethodId) (args : Array Value) (below : List Frame) (meth : Method) (c : Code), CxC p y s m args meth c g N0 → ∀ (H : Heap) (locs : List Loc) (ls : Array Slot), Lo ls vs → vs.length = y.2.2.1 → Met l y'.1 (wsY y') (rmC d' mc' ms') (va_Pc av (CG g N0 ad t)) (QC g N0 t1 t ad) mc' ms' (fq N0) → PreS s H (va_Pc av (CG g N0 ad t)) av →
      va_Run p l e (rmC d mc ms) s m args below meth c H locs cs ss mc' ms' (F0 m pc ls stk) st (QC g N0 t1 t ad av.toArray) (fq N0)) : AC l g N0 d mc ms y tE pc vs stk t ad cs ss := by
  intro p e s m args below meth c hc H locs ls hP hD hS hl hn
  obtain ⟨hx, hb, hr, hml, hown, hts, hlocks, hK, hC, hN0, hnm0⟩ := id hc
  have hpre : PreS s H (va_Pc av (CG g N0 ad t)) av := ⟨fun a U f mk q => ⟨q.1, q.2.call f mk a⟩, fun U hU hW => ⟨rfl, by rw [hU]; exact hP, hD, va_K.moved hW.alike hK, hC.warm hW, by rw [hU]; exact Nat.le_trans hN0 hS.1⟩⟩
  have hr2 := hrun p e s m args below meth c hc H locs ls hl hn hT hpre
  intro T hT2 X
  obtain ⟨v, st₀, t2, T', L, h0, X', hL, e1, e2, ⟨⟨ad', hv, hk, hP1, hD1, -⟩, hz, hkk⟩, hst⟩ := hr2 T hT2 X
  cases hv
  rw [h0] at hz hkk
  have hS1 : va_S (fq N0) s.heap T'.heap (locs ++ L) := ⟨Nat.le_trans hS.1 (by rw [e1]; exact hz), fun q h1 h2 => by rw [e1, hkk q (Nat.lt_of_lt_of_le h1 hS.1) h2]; exact hS.2.1 q h1 h2, fun q hq => by
      rcases List.mem_append.mp hq with h | h
      · exact hS.2.2 q h
      · exact hL q h⟩
  have k9 := W_mono (fun _ => MQ_mono (fun _ _ => QC.mono ht hk)) (kk ad' hk p e s m args below meth c hc T'.heap (locs ++ L) ls (by rw [e1]; exact hP1) hD1 hS1 hl hn)
  obtain ⟨t3, a1, b1⟩ := k9 T' rfl X'
  exact ⟨t3, hst t3 a1, b1⟩
theorem c_callI {l : Launch} {g : GT} {N0 d mc ms : Nat} {y : MT} {tE pc n : Nat} {vs : List (Option Value)} {st stk : List Value} {t : Nat} {ad : Nat → Nat} {cs ss : Nat} {d' mc' ms' t1 idx np b : Nat} {y' : MT} (av : List Value) (hd : De y pc (.invokespecial idx) 3 n) (hl1 : Cond.methodLink y.1.cls idx y'.1 ∈ lw_tblg) (hl2 : Cond.instanceMethod y'.1 ∈ lw_tblg) (hl3 : Cond.initialized y'.1.cls ∈ lw_tblg) (hl4 : Cond.code y'.1 y'.2.1 y'.2.2.1 y'.2.2.2 ∈ lw_tblg) (hret : y'.2.2.2 = none) (hnm : y'.1.name = "<init>")
    (hdd : y'.1.cls ≠ "java/lang/invoke/MethodHandle" ∧ y'.1.cls ≠ "java/lang/invoke/VarHandle" ∧ (parseMethodDescriptor y'.1.desc).map (fun d => d.parameters.length) = some np) (hlen : av.length = np) (hroom : d' + 1 ≤ d ∧ 8 + (y'.2.2.1 + 11) + 40 * d' ≤ 40 * d) (hcs : cs + mc' ≤ mc) (hss : ss + ms' ≤ ms) (hst : (st.map fun v => v.category).sum ≤ 8) (hstk : av.reverse ++ .ref b :: st = stk)
    (hT : TrC l g N0 d' mc' ms' y' (.ref b :: av) t t1 ad) (ht : t ≤ t1) (kk : ∀ ad' : Nat → Nat, (∀ j ∈ ksT t, ad' j = ad j) → AC l g N0 d mc ms y tE n vs st t1 ad' (cs + mc') (ss + ms')) : AC l g N0 d mc ms y tE pc vs stk t ad cs ss := by
  obtain ⟨hd, rfl⟩ := hd
  refine c_call hT ht kk (fun p e s m args below meth c hc H locs ls hl hn hM hpre => ?_)
  obtain ⟨hx, hb, hr, hml, hown, hts, hlocks, hK, hC, hN0, hnm0⟩ := id hc
  have hmem : ∀ w, w ∈ lw_tblg → w.before args s = true := fun w h => hts _ (List.mem_cons_of_mem _ h)
  obtain ⟨yn, yb, yl, yr⟩ := y'
  cases (show yr = none from hret)
  exact va_runI (As := av) (rest := st) ⟨hx, hb, hml, hown, hts⟩ hM ⟨callB_of np hts (wsY_good hl4) rfl rfl rfl (hmem _ hl3) (hmem _ hl1) hdd hroom, hnm, hmem _ hl2⟩ hpre rfl hlen (hl.1.trans hn) hstk.symm (lv_room hst) hd ⟨hcs, hss⟩
theorem c_callN {l : Launch} {g : GT} {N0 d mc ms : Nat} {y : MT} {tE pc n : Nat} {vs : List (Option Value)} {st stk : List Value} {t : Nat} {ad : Nat → Nat} {cs ss : Nat} {d' mc' ms' t1 idx np b : Nat} {y' : MT} (av : List Value) (hd : De y pc (.invokespecial idx) 3 n) (hl1 : ∀ U : State, KN U → va_Nw (.methodLinkNest y.1.cls idx y'.1 "TattooRoads") U) (hl2 : Cond.instanceMethod y'.1 ∈ lw_tblg) (hl3 : Cond.initialized y'.1.cls ∈ lw_tblg) (hl4 : Cond.code y'.1 y'.2.1 y'.2.2.1 y'.2.2.2 ∈ lw_tblg) (hret : y'.2.2.2 = none) (hnm : y'.1.name = "<init>")
    (hdd : y'.1.cls ≠ "java/lang/invoke/MethodHandle" ∧ y'.1.cls ≠ "java/lang/invoke/VarHandle" ∧ (parseMethodDescriptor y'.1.desc).map (fun d => d.parameters.length) = some np) (hlen : av.length = np) (hroom : d' + 1 ≤ d ∧ 8 + (y'.2.2.1 + 11) + 40 * d' ≤ 40 * d) (hcs : cs + mc' ≤ mc) (hss : ss + ms' ≤ ms) (hst : (st.map fun v => v.category).sum ≤ 8) (hstk : av.reverse ++ .ref b :: st = stk)
    (hT : TrC l g N0 d' mc' ms' y' (.ref b :: av) t t1 ad) (ht : t ≤ t1) (kk : ∀ ad' : Nat → Nat, (∀ j ∈ ksT t, ad' j = ad j) → AC l g N0 d mc ms y tE n vs st t1 ad' (cs + mc') (ss + ms')) : AC l g N0 d mc ms y tE pc vs stk t ad cs ss := by
  obtain ⟨hd, rfl⟩ := hd
  refine c_call hT ht kk (fun p e s m args below meth c hc H locs ls hl hn hM hpre => ?_)
  obtain ⟨hx, hb, hr, hml, hown, hts, hlocks, hK, hC, hN0, hnm0⟩ := id hc
  have hmem : ∀ w, w ∈ lw_tblg → w.before args s = true := fun w h => hts _ (List.mem_cons_of_mem _ h)
  obtain ⟨yn, yb, yl, yr⟩ := y'
  cases (show yr = none from hret)
  exact va_runIN (As := av) (rest := st) ⟨hx, hb, hml, hown, hts⟩ hM ⟨va_cnB np hts (wsY_good hl4) rfl rfl rfl (hl1 s hC) (hmem _ hl3) hdd hroom, hnm, hmem _ hl2⟩ hpre rfl hlen (hl.1.trans hn) hstk.symm (lv_room hst) hd ⟨hcs, hss⟩
