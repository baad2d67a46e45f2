theorem l_istore_n {l : Launch} {G : GT} {b L : Nat} {xs : Nat → Int32} {pc n : Nat} {vs : List (Option Value)} {st : List Value} {M : Mem} {k : Fin 4} {x : Int32} {vs' : List (Option Value)} (hd : De mL pc (.istore_n k) 1 n) (hi : vs.all (fun o => match o with | none => true | some w => w.category == 1) = true) (hlt : (k : Nat) < vs.length) (hv : vs.set (k : Nat) (some (.int x)) = vs') (kk : LA l G b L xs n vs' st M) : LA l G b L xs pc vs (.int x :: st) M := by
  obtain ⟨hd, rfl⟩ := hd
  intro p e s m below meth c hc H locs ls hP hS hl hn cs ss hcs hss
  obtain ⟨hx, hb, hr, hml, hown, hts, hX, hbl, hlocks, hK, hJ, hC, hA⟩ := id hc
  obtain ⟨ls', e', h'⟩ := hl.set (v := .int x) hlt rfl hi
  have kk := kk p e s m below meth c hc H locs ls' hP hS (hv ▸ h') (by rw [← hv, List.length_set]; exact hn) cs ss hcs hss
  intro T hT X
  obtain ⟨t, a, b⟩ := kk T hT X
  refine ⟨t, ?_, b⟩
  jvm_step X.here [X.here.top, ↓top_set X.here.top, hx, hb, hd, e']
  exact a
-- the law's first rows: the two objects
def KcA (g : GT) (A : Nat → Prop) (U : State) (H : Heap) : Prop :=
  (va_Nw wN1 U ∧ va_Nw wN2 U ∧ va_Nw wN3 U ∧ va_Nw wN4 U) ∧ va_Z "TattooRoads" "KIND_ABOVE" "[I" (.ref g.2.2.2.1) A U H ∧ va_T .int g.2.2.2.1 6 kaf A U H ∧
  (∀ i, i < 6 → vk_R RX5 (sidx i) (stx i) (g.2.2.2.2.1 i) U) ∧ vk_S 6 slen sbyt g.2.2.2.2.1 g.2.2.2.2.2 A U H ∧
  va_Z "java/lang/String" "COMPACT_STRINGS" "Z" (.int 1) A U H ∧ va_Zq "jdk/internal/util/Preconditions" "SIOOBE_FORMATTER" "Ljava/util/function/BiFunction;" A U H
theorem KcA.kc {g : GT} {A : Nat → Prop} {U : State} {ad : Nat → Nat} (h : KcA g A U U.heap) (hA : ∀ k, inK k = true → A (ad k)) : Kc (ad, g.2) U U.heap := by
  have hAB : ∀ q, GA (ad, g.2) q → A q := fun q hq => by
    obtain ⟨k, h1, rfl⟩ := hq
    exact hA k h1
  obtain ⟨h1, h2, h3, h4, h5, h6, h7⟩ := h
  exact ⟨h1, h2.narrow hAB, h3.narrow hAB, h4, h5.narrow hAB, h6.narrow hAB, h7.narrow hAB⟩
def CxB (p : Program) (s : State) (m : MethodId) (meth : Method) (c : Code) (b L : Nat) (xs : Nat → Int32) (g : GT) (N0 : Nat) : Prop :=
  p.tables.exec = Jvm.exec ∧ c.code = code ∧ meth.sig.returnType = ret ∧ c.maxLocals = 4 ∧ s.vm.findClass RL = some m.cls ∧ (∀ w ∈ lw_tbl, w.before #[Value.ref b] s = true) ∧ va_X b L xs s s.heap ∧ b < s.heap.size ∧ meth.locks = false ∧ va_K g.2.1 clz (tyz g) s ∧ KN s ∧ s.heap.size = N0 ∧ KcA g (fq N0) s s.heap
def LB (l : Launch) (g : GT) (N0 b L : Nat) (xs : Nat → Int32) (pc : Nat) (vs : List (Option Value)) (st : List Value) (t : Nat) (ad : Nat → Nat) (cs ss : Nat) : Prop :=
  ∀ (p : Program) (e : Env) (s : State) (m : MethodId) (below : List Frame) (meth : Method) (c : Code), CxB p s m meth c b L xs g N0 → ∀ (H : Heap) (locs : List Loc) (ls : Array Slot), va_P g.2.1 clz (wt g ad t) H → va_D (fq N0) (wt g ad t) → va_S (fq N0) s.heap H locs → Lo ls vs → vs.length = 4 →
    W p l e room_1 s m #[Value.ref b] below meth c H locs cs ss (lw_Z below #[Value.ref b] s) (F0 m pc ls st)
theorem b_dup {l : Launch} {g : GT} {N0 b L : Nat} {xs : Nat → Int32} {pc n : Nat} {vs : List (Option Value)} {st : List Value} {t : Nat} {ad : Nat → Nat} {cs ss : Nat} {v : Value} (hd : De mL pc .dup 1 n) (hv : v.category = 1) (kk : LB l g N0 b L xs n vs (v :: v :: st) t ad cs ss) : LB l g N0 b L xs pc vs (v :: st) t ad cs ss := by
  obtain ⟨hd, rfl⟩ := hd
  intro p e s m below meth c hc H locs ls hP hD hS hl hn
  obtain ⟨hx, hb, hr, hml, hown, hts, hX, hbl, hlocks, hK, hC, hN0, hZ⟩ := id hc
  exact lv_dup hx hb hd hv (kk p e s m below meth c hc H locs ls hP hD hS hl hn)
theorem b_astore_n {l : Launch} {g : GT} {N0 b L : Nat} {xs : Nat → Int32} {pc n : Nat} {vs : List (Option Value)} {st : List Value} {t : Nat} {ad : Nat → Nat} {cs ss : Nat} {k : Fin 4} {x : Nat} {vs' : List (Option Value)} (hd : De mL pc (.astore_n k) 1 n) (hi : vs.all (fun o => match o with | none => true | some w => w.category == 1) = true) (hlt : (k : Nat) < vs.length) (hv : vs.set (k : Nat) (some (.ref x)) = vs') (kk : LB l g N0 b L xs n vs' st t ad cs ss) : LB l g N0 b L xs pc vs (.ref x :: st) t ad cs ss := by
  obtain ⟨hd, rfl⟩ := hd
  intro p e s m below meth c hc H locs ls hP hD hS hl hn
  obtain ⟨hx, hb, hr, hml, hown, hts, hX, hbl, hlocks, hK, hC, hN0, hZ⟩ := id hc
  obtain ⟨ls', e', h'⟩ := hl.set (v := .ref x) hlt rfl hi
  have kk := kk p e s m below meth c hc H locs ls' hP hD hS (hv ▸ h') (by rw [← hv, List.length_set]; exact hn)
  intro T hT X
  obtain ⟨t1, a, b⟩ := kk T hT X
  refine ⟨t1, ?_, b⟩
  jvm_step X.here [X.here.top, ↓top_set X.here.top, hx, hb, hd, e']
  exact ⟨rfl, a⟩
theorem b_new {l : Launch} {g : GT} {N0 b L : Nat} {xs : Nat → Int32} {pc n : Nat} {vs : List (Option Value)} {st : List Value} {t : Nat} {ad : Nat → Nat} {cs ss : Nat} {idx k ci i : Nat} {z : Int32} {fl : List (Option Nat)} {Cn : String} {T : u_T} {N : Nat} (hd : De mL pc (.new idx) 3 n) (hsh : shp k = (0, ci, fl)) (hc2 : clz[ci]? = some (Cn, T, N)) (hin : ∀ w ∈ u_ws Cn T N, w ∈ lw_tblg) (ty0 : Nat → FieldType) (hty : ∀ k, k < N → parseFieldDescriptor (T k).2.2.1 = some (ty0 k)) (hw : Cond.classLink RL idx Cn ∈ lw_tblg) (hins : Cond.instantiable Cn N ∈ lw_tblg) (hini : Cond.initialized Cn ∈ lw_tblg) (hfs : ∀ j, j < N → defaultValue (ty0 j) = vp_V (fs0 fl) j) (hcs : cs + 1 ≤ 600000) (hss : ss + N ≤ 7302250) (hev : TT[t]? = some (0, k, i, z))
    (kk : ∀ ad' : Nat → Nat, (∀ j ∈ ksT t, ad' j = ad j) → LB l g N0 b L xs n vs (.ref (ad' k) :: st) (t + 1) ad' (cs + 1) (ss + N)) : LB l g N0 b L xs pc vs st t ad cs ss := by
  obtain ⟨hd, rfl⟩ := hd
  intro p e s m below meth c hc H locs ls hP hD hS hl hn
  obtain ⟨hx, hb, hr, hml, hown, hts, hX, hbl, hlocks, hK, hC, hN0, hZ⟩ := id hc
  have hmem : ∀ w, w ∈ lw_tblg → w.before #[Value.ref b] s = true := fun w h => hts _ (in_tbl h)
  refine va_new (D := g.2.1) (C := Cn) (T := T) (N := N) hx hb hts (fun w h => in_tbl (hin w h)) ty0 hty hown (hmem _ hw) (hmem _ hins) (hmem _ hini) hK hP hD hS (fun q hq => by rw [hN0] at hq; exact hq) hc2 hfs hcs hss hd (fun q H1 hP1 hD1 hS1 => ?_)
  have hw1 := wt_new (g := g) (ad := ad) hev q
  have hc0 : cel0 g k = .inr (ci, fs0 fl) := by unfold cel0; rw [hsh]; rfl
  rw [hc0] at hw1
  rw [← hw1] at hP1 hD1
  have := kk _ (fun j hj => upn_n ad q (ks_ne hev hj)) p e s m below meth c hc H1 locs ls hP1 hD1 hS1 hl hn
  rw [upn_s] at this
  exact this
theorem b_ctor {l : Launch} {g : GT} {N0 b L : Nat} {xs : Nat → Int32} {pc n : Nat} {vs : List (Option Value)} {st : List Value} {t : Nat} {ad : Nat → Nat} {cs ss : Nat} {d' mc' ms' t1 idx a : Nat} {y' : MT} (hd : De mL pc (.invokespecial idx) 3 n) (hl1 : Cond.methodLink RL idx y'.1 ∈ lw_tblg) (hl2 : Cond.instanceMethod y'.1 ∈ lw_tblg) (hl3 : Cond.initialized y'.1.cls ∈ lw_tblg) (hl4 : Cond.code y'.1 y'.2.1 y'.2.2.1 y'.2.2.2 ∈ lw_tblg) (hret : y'.2.2.2 = none) (hnm : y'.1.name = "<init>")
    (hdd : y'.1.cls ≠ "java/lang/invoke/MethodHandle" ∧ y'.1.cls ≠ "java/lang/invoke/VarHandle" ∧ (parseMethodDescriptor y'.1.desc).map (fun d => d.parameters.length) = some 0) (hroom : d' ≤ 10 ∧ y'.2.2.1 ≤ 21) (hcs : cs + mc' ≤ 600000) (hss : ss + ms' ≤ 7302250) (hst : (st.map fun v => v.category).sum ≤ 8)
    (hT : TrC l g N0 d' mc' ms' y' [.ref a] t t1 ad) (kk : ∀ ad' : Nat → Nat, (∀ j ∈ ksT t, ad' j = ad j) → LB l g N0 b L xs n vs st t1 ad' (cs + mc') (ss + ms')) : LB l g N0 b L xs pc vs (.ref a :: st) t ad cs ss := by
  obtain ⟨hd, rfl⟩ := hd
  intro p e s m below meth c hc H locs ls hP hD hS hl hn
  obtain ⟨hx, hb, hr, hml, hown, hts, hX, hbl, hlocks, hK, hC, hN0, hZ⟩ := id hc
  have hmem : ∀ w, w ∈ lw_tblg → w.before #[Value.ref b] s = true := fun w h => hts _ (in_tbl h)
  have hpre : PreS s H (va_Pc [.ref a] (CG g N0 ad t)) [.ref a] := ⟨fun a U f mk q => ⟨q.1, q.2.call f mk a⟩, fun U hU hW => ⟨rfl, by rw [hU]; exact hP, hD, va_K.moved hW.alike hK, hC.warm hW, by rw [hU, ← hN0]; exact hS.1⟩⟩
  obtain ⟨yn, yb, yl, yr⟩ := y'
  cases (show yr = none from hret)
  have hr2 := va_runI (meth := meth) (p := p) (l := l) (e := e) (R := room_1) (below := below) (locs := locs) (cells := cs) (slots := ss) (As := []) (rest := st) (b := a) (g := F0 m pc ls (.ref a :: st)) ⟨hx, hb, hml, hown, hts⟩ hT ⟨callB_of 0 hts (lw_goodL hl4) rfl rfl rfl (hmem _ hl3) (hmem _ hl1) hdd ⟨(show d' + 1 ≤ 2048 by omega), (show 8 + (yl + 11) + 40 * d' ≤ 84000 by have := hroom.2; simp only at this; omega)⟩, hnm, hmem _ hl2⟩ hpre rfl rfl (hl.1.trans hn) rfl (lv_room hst) hd ⟨hcs, hss⟩
  intro T hT2 X
  obtain ⟨v, st₀, t2, T', L', h0, X', hL, e1, e2, ⟨⟨ad', hv, hk, hP1, hD1, -⟩, hz, hkk⟩, hst2⟩ := hr2 T hT2 X
  cases hv
  rw [h0] at hz hkk
  have hS1 : va_S (fq N0) s.heap T'.heap (locs ++ L') := ⟨Nat.le_trans hS.1 (by rw [e1]; exact hz), fun q h1 h2 => by rw [e1, hkk q (Nat.lt_of_lt_of_le h1 hS.1) h2]; exact hS.2.1 q h1 h2, fun q hq => by
      rcases List.mem_append.mp hq with h | h
      · exact hS.2.2 q h
      · exact hL q h⟩
  obtain ⟨t3, a1, b1⟩ := kk ad' hk p e s m below meth c hc T'.heap (locs ++ L') ls (by rw [e1]; exact hP1) hD1 hS1 hl hn T' rfl X'
  exact ⟨t3, hst2 t3 a1, b1⟩
/-- both objects are made: the layer -/
theorem b_end {l : Launch} {g : GT} {N0 b L : Nat} {xs : Nat → Int32} {pc : Nat} {vs : List (Option Value)} {st : List Value} {ad : Nat → Nat} {cs ss : Nat} (hcs : cs ≤ 600000) (hss : ss ≤ 7302250) (kk : LA l (ad, g.2) b L xs pc vs st (mT 240)) : LB l g N0 b L xs pc vs st 240 ad cs ss := by
  intro p e s m below meth c hc H locs ls hP hD hS hl hn
  obtain ⟨hx, hb, hr, hml, hown, hts, hX, hbl, hlocks, hK, hC, hN0, hZ⟩ := id hc
  obtain ⟨e1, e2, e3⟩ := CG_end hP hD
  refine kk p e s m below meth c ⟨hx, hb, hr, hml, hown, hts, hX, hbl, hlocks, hK, e2, hZ.kc (fun k hk => e3 k hk), fun k hk => by rw [hN0]; exact e3 k hk⟩ H locs ls e1 (by rw [hN0]; exact hS) hl hn cs ss hcs hss
theorem eL_0 : De mL 0 (.new 7) 3 3 := ⟨by decide +kernel, rfl⟩
theorem eL_3 : De mL 3 (.dup) 1 4 := ⟨by decide +kernel, rfl⟩
theorem eL_4 : De mL 4 (.invokespecial 9) 3 7 := ⟨by decide +kernel, rfl⟩
theorem eL_7 : De mL 7 (.astore_n 1) 1 8 := ⟨by decide +kernel, rfl⟩
theorem eL_8 : De mL 8 (.new 10) 3 11 := ⟨by decide +kernel, rfl⟩
theorem eL_11 : De mL 11 (.dup) 1 12 := ⟨by decide +kernel, rfl⟩
theorem eL_12 : De mL 12 (.invokespecial 12) 3 15 := ⟨by decide +kernel, rfl⟩
theorem eL_15 : De mL 15 (.astore_n 2) 1 16 := ⟨by decide +kernel, rfl⟩
set_option maxHeartbeats 4000000 in
/-- from the entry, for every script of at most 3072 ints, the law comes to its end with true -/
theorem whole_start {p : Program} {e : Env} {s : State} {m : MethodId} {below : List Frame} {meth : Method} {c : Code} (l : Launch) (hflags : l.flags = flags0) {b L : Nat} {xs : Nat → Int32} (hL : L ≤ 3072) (C0 : lw_At p s m meth c b L xs) : W p l e room_1 s m #[Value.ref b] below meth c s.heap [] 0 0 (lw_Z below #[Value.ref b] s) (entryFrame m ([Value.ref b] : List Value).toArray 4) := by
  obtain ⟨hx, hb, hr, hml, hown, hts, hX, hbl, hlocks, hgv⟩ := C0
  obtain ⟨D, cA, hK⟩ := st_K hts
  obtain ⟨K0, sad, vad, hZ⟩ := st_C hts hgv (A := fq s.heap.size) (fun a h1 h2 => Nat.not_le.mpr h1 h2)
  have hN := st_N hts
  let g : GT := (fun _ => 0, D, cA, K0, sad, vad)
  have hB : CxB p s m meth c b L xs g s.heap.size := ⟨hx, hb, hr, hml, hown, hts, hX, hbl, hlocks, hK _ _ _ _, hN, rfl, hZ⟩
  rw [lg_entry_eq]
  have k : LB l g s.heap.size b L xs 0 [some (.ref b), none, none, none] [] 0 (fun _ => 0) 0 0 := by
    refine b_new (t := 0) (k := 0) (ci := 6) eL_0 rfl rfl iX7 tyX7 tyX7_ok kl_L_7 is_X7 in_X7 df_X7 (by decide) (by decide) T_0 (fun ad1 hd1 => ?_)
    refine b_dup eL_3 rfl ?_
    refine b_ctor (t := 1) (d' := 3) (mc' := 79) (ms' := 2407) (t1 := 194) (y' := mX7_init) eL_4 ml_L_9 im_X7_init in_X7 cw_X7_init rfl rfl (by decide +kernel) (by decide) (by decide) (by decide) (Nat.le_of_ble_eq_true rfl) (k_X7_0 ad1) (fun ad2 hd2 => ?_)
    rw [← hd2 0 (by decide +kernel)]
    refine b_astore_n (vs' := [some (.ref b), some (.ref (ad2 0)), none, none]) eL_7 rfl (Nat.le_of_ble_eq_true rfl) rfl ?_
    refine b_new (t := 194) (k := 100) (ci := 7) eL_8 rfl rfl iX8 tyX8 tyX8_ok kl_L_10 is_X8 in_X8 df_X8 (by decide) (by decide) T_194 (fun ad3 hd3 => ?_)
    rw [← hd3 0 (by decide +kernel)]
    refine b_dup eL_11 rfl ?_
    refine b_ctor (t := 195) (d' := 1) (mc' := 19) (ms' := 10058) (t1 := 240) (y' := mX8_init) eL_12 ml_L_12 im_X8_init in_X8 cw_X8_init rfl rfl (by decide +kernel) (by decide) (by decide) (by decide) (Nat.le_of_ble_eq_true rfl) (k_X8_100 ad3) (fun ad4 hd4 => ?_)
    rw [← hd4 0 (by decide +kernel), ← hd4 100 (by decide +kernel)]
    refine b_astore_n (vs' := [some (.ref b), some (.ref (ad4 0)), some (.ref (ad4 100)), none]) eL_15 rfl (Nat.le_of_ble_eq_true rfl) rfl ?_
    refine b_end (by decide) (by decide) ?_
    refine l_iconst (v := nI 0) eL_16 (by decide +kernel) (l_istore_n (vs' := lvs (ad4, g.2) b 0) eL_17 rfl (Nat.le_of_ble_eq_true rfl) rfl ?_)
    exact L_loop hL (L + 1) 0 _ (by decide) (by omega) rel0
  refine k p e s m below meth c hB s.heap [] _ ?_ ?_ va_S.rf (Lo.entry [.ref b] (Nat.le_of_ble_eq_true rfl)) rfl
  · intro q x hx
    cases hx
  · exact ⟨fun i j p q hi => (by cases hi), fun k q hk => (by cases hk)⟩
