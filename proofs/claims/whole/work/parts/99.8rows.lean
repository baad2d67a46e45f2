-- the law's method: in it at pc
abbrev mL : MT := (yL_law, code, 4, ret)
def CxL (p : Program) (s : State) (m : MethodId) (meth : Method) (c : Code) (b L : Nat) (xs : Nat → Int32) (G : GT) : Prop :=
  p.tables.exec = Jvm.exec ∧ c.code = code ∧ meth.sig.returnType = ret ∧ c.maxLocals = 4 ∧ s.vm.findClass RL = some m.cls ∧ (∀ w ∈ lw_tbl, w.before #[Value.ref b] s = true) ∧ va_X b L xs s s.heap ∧ b < s.heap.size ∧ meth.locks = false ∧ va_K G.2.1 clz (tyz G) s ∧ Dj G ∧ Kc G s s.heap ∧ ∀ k, inK k = true → s.heap.size ≤ G.1 k
def LA (l : Launch) (G : GT) (b L : Nat) (xs : Nat → Int32) (pc : Nat) (vs : List (Option Value)) (st : List Value) (M : Mem) : Prop :=
  ∀ (p : Program) (e : Env) (s : State) (m : MethodId) (below : List Frame) (meth : Method) (c : Code), CxL p s m meth c b L xs G → ∀ (H : Heap) (locs : List Loc) (ls : Array Slot), va_P G.2.1 clz (wl G M) H → va_S (fq s.heap.size) s.heap H locs → Lo ls vs → vs.length = 4 → ∀ cs ss : Nat, cs ≤ 600000 → ss ≤ 7302250 →
    W p l e room_1 s m #[Value.ref b] below meth c H locs cs ss (lw_Z below #[Value.ref b] s) (F0 m pc ls st)
theorem l_iconst {l : Launch} {G : GT} {b L : Nat} {xs : Nat → Int32} {pc n : Nat} {vs : List (Option Value)} {st : List Value} {M : Mem} {k : Int} {v : Int32} (hd : De mL pc (.iconst k) 1 n) (hv : Int32.ofInt k = v) (kk : LA l G b L xs n vs (.int v :: st) M) : LA l G b L xs pc vs st M := by
  obtain ⟨hd, rfl⟩ := hd
  intro p e s m below meth c hc H locs ls hP hS hl hn cs ss hcs hss
  obtain ⟨hx, hb, hr, hml, hown, hts, hX, hbl, hlocks, hK, hJ, hC, hA⟩ := id hc
  exact lv_iconst hx hb hd hv (kk p e s m below meth c hc H locs ls hP hS hl hn cs ss hcs hss)
theorem l_bipush {l : Launch} {G : GT} {b L : Nat} {xs : Nat → Int32} {pc n : Nat} {vs : List (Option Value)} {st : List Value} {M : Mem} {k : Int} {v : Int32} (hd : De mL pc (.bipush k) 2 n) (hv : (Int8.ofInt k).toInt32 = v) (kk : LA l G b L xs n vs (.int v :: st) M) : LA l G b L xs pc vs st M := by
  obtain ⟨hd, rfl⟩ := hd
  intro p e s m below meth c hc H locs ls hP hS hl hn cs ss hcs hss
  obtain ⟨hx, hb, hr, hml, hown, hts, hX, hbl, hlocks, hK, hJ, hC, hA⟩ := id hc
  exact lv_bipush hx hb hd hv (kk p e s m below meth c hc H locs ls hP hS hl hn cs ss hcs hss)
theorem l_iload_n {l : Launch} {G : GT} {b L : Nat} {xs : Nat → Int32} {pc n : Nat} {vs : List (Option Value)} {st : List Value} {M : Mem} {k : Fin 4} {x : Int32} (hd : De mL pc (.iload_n k) 1 n) (hv : vs[(k : Nat)]? = some (some (.int x))) (kk : LA l G b L xs n vs (.int x :: st) M) : LA l G b L xs pc vs st M := by
  obtain ⟨hd, rfl⟩ := hd
  intro p e s m below meth c hc H locs ls hP hS hl hn cs ss hcs hss
  obtain ⟨hx, hb, hr, hml, hown, hts, hX, hbl, hlocks, hK, hJ, hC, hA⟩ := id hc
  exact lv_iload_n hx hb hd rfl (hl.2.2 _ _ hv) (kk p e s m below meth c hc H locs ls hP hS hl hn cs ss hcs hss)
theorem l_aload_n {l : Launch} {G : GT} {b L : Nat} {xs : Nat → Int32} {pc n : Nat} {vs : List (Option Value)} {st : List Value} {M : Mem} {k : Fin 4} {x : Nat} (hd : De mL pc (.aload_n k) 1 n) (hv : vs[(k : Nat)]? = some (some (.ref x))) (kk : LA l G b L xs n vs (.ref x :: st) M) : LA l G b L xs pc vs st M := by
  obtain ⟨hd, rfl⟩ := hd
  intro p e s m below meth c hc H locs ls hP hS hl hn cs ss hcs hss
  obtain ⟨hx, hb, hr, hml, hown, hts, hX, hbl, hlocks, hK, hJ, hC, hA⟩ := id hc
  exact lv_aload_n hx hb hd rfl (hl.2.2 _ _ hv) (kk p e s m below meth c hc H locs ls hP hS hl hn cs ss hcs hss)
theorem l_iinc {l : Launch} {G : GT} {b L : Nat} {xs : Nat → Int32} {pc n : Nat} {vs : List (Option Value)} {st : List Value} {M : Mem} {k : Nat} {z : Int} {x v : Int32} {vs' : List (Option Value)} (hd : De mL pc (.iinc k z) 3 n) (hi : vs.all (fun o => match o with | none => true | some w => w.category == 1) = true) (hx0 : vs[k]? = some (some (.int x))) (hz : Int32.ofInt z = v) (hv : vs.set k (some (.int (x + v))) = vs') (kk : LA l G b L xs n vs' st M) : LA l G b L xs pc vs st M := by
  subst hz
  obtain ⟨hd, rfl⟩ := hd
  intro p e s m below meth c hc H locs ls hP hS hl hn cs ss hcs hss
  obtain ⟨hx, hb, hr, hml, hown, hts, hX, hbl, hlocks, hK, hJ, hC, hA⟩ := id hc
  obtain ⟨ls', e', h'⟩ := hl.set (v := .int (x + Int32.ofInt z)) (List.getElem?_eq_some_iff.mp hx0).1 rfl hi
  have hg := hl.2.2 _ _ hx0
  have kk := kk p e s m below meth c hc H locs ls' hP hS (hv ▸ h') (by rw [← hv, List.length_set]; exact hn) cs ss hcs hss
  intro T hT X
  obtain ⟨t, a, b⟩ := kk T hT X
  refine ⟨t, ?_, b⟩
  jvm_step X.here [X.here.top, ↓top_set X.here.top, hx, hb, hd, hg, e']
  exact a
theorem l_iadd {l : Launch} {G : GT} {b L : Nat} {xs : Nat → Int32} {pc n : Nat} {vs : List (Option Value)} {st : List Value} {M : Mem} {x z : Int32} (hd : De mL pc .iadd 1 n) (kk : LA l G b L xs n vs (.int (x + z) :: st) M) : LA l G b L xs pc vs (.int z :: .int x :: st) M := by
  obtain ⟨hd, rfl⟩ := hd
  intro p e s m below meth c hc H locs ls hP hS hl hn cs ss hcs hss
  obtain ⟨hx, hb, hr, hml, hown, hts, hX, hbl, hlocks, hK, hJ, hC, hA⟩ := id hc
  exact lv_iadd hx hb hd (kk p e s m below meth c hc H locs ls hP hS hl hn cs ss hcs hss)
theorem l_isub {l : Launch} {G : GT} {b L : Nat} {xs : Nat → Int32} {pc n : Nat} {vs : List (Option Value)} {st : List Value} {M : Mem} {x z : Int32} (hd : De mL pc .isub 1 n) (kk : LA l G b L xs n vs (.int (x - z) :: st) M) : LA l G b L xs pc vs (.int z :: .int x :: st) M := by
  obtain ⟨hd, rfl⟩ := hd
  intro p e s m below meth c hc H locs ls hP hS hl hn cs ss hcs hss
  obtain ⟨hx, hb, hr, hml, hown, hts, hX, hbl, hlocks, hK, hJ, hC, hA⟩ := id hc
  exact lv_isub hx hb hd (kk p e s m below meth c hc H locs ls hP hS hl hn cs ss hcs hss)
theorem l_iand {l : Launch} {G : GT} {b L : Nat} {xs : Nat → Int32} {pc n : Nat} {vs : List (Option Value)} {st : List Value} {M : Mem} {x z : Int32} (hd : De mL pc .iand 1 n) (kk : LA l G b L xs n vs (.int (x &&& z) :: st) M) : LA l G b L xs pc vs (.int z :: .int x :: st) M := by
  obtain ⟨hd, rfl⟩ := hd
  intro p e s m below meth c hc H locs ls hP hS hl hn cs ss hcs hss
  obtain ⟨hx, hb, hr, hml, hown, hts, hX, hbl, hlocks, hK, hJ, hC, hA⟩ := id hc
  exact lv_iand hx hb hd (kk p e s m below meth c hc H locs ls hP hS hl hn cs ss hcs hss)
theorem l_goto {l : Launch} {G : GT} {b L : Nat} {xs : Nat → Int32} {pc n : Nat} {vs : List (Option Value)} {st : List Value} {M : Mem} {off : Int} {tgt : Nat} (hd : De mL pc (.goto off) 3 n) (ht : (pc : Int) + off = (tgt : Int)) (kk : LA l G b L xs tgt vs st M) : LA l G b L xs pc vs st M := by
  obtain ⟨hd, rfl⟩ := hd
  intro p e s m below meth c hc H locs ls hP hS hl hn cs ss hcs hss
  obtain ⟨hx, hb, hr, hml, hown, hts, hX, hbl, hlocks, hK, hJ, hC, hA⟩ := id hc
  exact lv_goto hx hb hd ht (kk p e s m below meth c hc H locs ls hP hS hl hn cs ss hcs hss)
theorem l_icmp_eq {l : Launch} {G : GT} {b L : Nat} {xs : Nat → Int32} {pc n : Nat} {vs : List (Option Value)} {st : List Value} {M : Mem} {x z : Int32} {off : Int} {tgt : Nat} (hd : De mL pc (.if_icmp .eq off) 3 n) (ht : (pc : Int) + off = (tgt : Int)) (kt : x = z → LA l G b L xs tgt vs st M) (kf : ¬ (x = z) → LA l G b L xs n vs st M) : LA l G b L xs pc vs (.int z :: .int x :: st) M := by
  obtain ⟨hd, rfl⟩ := hd
  intro p e s m below meth c hc H locs ls hP hS hl hn cs ss hcs hss
  obtain ⟨hx, hb, hr, hml, hown, hts, hX, hbl, hlocks, hK, hJ, hC, hA⟩ := id hc
  exact lv_icmp_eq hx hb hd ht (fun h => kt h p e s m below meth c hc H locs ls hP hS hl hn cs ss hcs hss) (fun h => kf h p e s m below meth c hc H locs ls hP hS hl hn cs ss hcs hss)
theorem l_icmp_gt {l : Launch} {G : GT} {b L : Nat} {xs : Nat → Int32} {pc n : Nat} {vs : List (Option Value)} {st : List Value} {M : Mem} {x z : Int32} {off : Int} {tgt : Nat} (hd : De mL pc (.if_icmp .gt off) 3 n) (ht : (pc : Int) + off = (tgt : Int)) (kt : z < x → LA l G b L xs tgt vs st M) (kf : ¬ (z < x) → LA l G b L xs n vs st M) : LA l G b L xs pc vs (.int z :: .int x :: st) M := by
  obtain ⟨hd, rfl⟩ := hd
  intro p e s m below meth c hc H locs ls hP hS hl hn cs ss hcs hss
  obtain ⟨hx, hb, hr, hml, hown, hts, hX, hbl, hlocks, hK, hJ, hC, hA⟩ := id hc
  exact lv_icmp_gt hx hb hd ht (fun h => kt h p e s m below meth c hc H locs ls hP hS hl hn cs ss hcs hss) (fun h => kf h p e s m below meth c hc H locs ls hP hS hl hn cs ss hcs hss)
theorem l_tswIn {l : Launch} {G : GT} {b L : Nat} {xs : Nat → Int32} {pc n : Nat} {vs : List (Option Value)} {st : List Value} {M : Mem} {dflt lo hi : Int} {offs : Array Int} {len : Nat} {x : Int32} (v : Int32) {off : Int} {tgt : Nat} (hd : De mL pc (.tableswitch dflt lo hi offs) len n) (hv : x = v) (h1 : ¬ v.toInt < lo) (h2 : ¬ hi < v.toInt) (ho : offs[(v.toInt - lo).toNat]? = some off) (ht : (pc : Int) + off = (tgt : Int)) (kk : LA l G b L xs tgt vs st M) : LA l G b L xs pc vs (.int x :: st) M := by
  subst hv
  obtain ⟨hd, rfl⟩ := hd
  intro p e s m below meth c hc H locs ls hP hS hl hn cs ss hcs hss
  obtain ⟨hx, hb, hr, hml, hown, hts, hX, hbl, hlocks, hK, hJ, hC, hA⟩ := id hc
  exact lv_tableIn hx hb hd h1 h2 ho ht (kk p e s m below meth c hc H locs ls hP hS hl hn cs ss hcs hss)
theorem l_tswOut {l : Launch} {G : GT} {b L : Nat} {xs : Nat → Int32} {pc n : Nat} {vs : List (Option Value)} {st : List Value} {M : Mem} {dflt lo hi : Int} {offs : Array Int} {len : Nat} {x : Int32} {tgt : Nat} (hd : De mL pc (.tableswitch dflt lo hi offs) len n) (h : x.toInt < lo ∨ hi < x.toInt) (ht : (pc : Int) + dflt = (tgt : Int)) (kk : LA l G b L xs tgt vs st M) : LA l G b L xs pc vs (.int x :: st) M := by
  obtain ⟨hd, rfl⟩ := hd
  intro p e s m below meth c hc H locs ls hP hS hl hn cs ss hcs hss
  obtain ⟨hx, hb, hr, hml, hown, hts, hX, hbl, hlocks, hK, hJ, hC, hA⟩ := id hc
  exact lv_tableOut hx hb hd h ht (kk p e s m below meth c hc H locs ls hP hS hl hn cs ss hcs hss)
theorem l_slen {l : Launch} {G : GT} {b L : Nat} {xs : Nat → Int32} {pc n : Nat} {vs : List (Option Value)} {st : List Value} {M : Mem} (hd : De mL pc .arraylength 1 n) (kk : LA l G b L xs n vs (.int (Int32.ofNat L) :: st) M) : LA l G b L xs pc vs (.ref b :: st) M := by
  obtain ⟨hd, rfl⟩ := hd
  intro p e s m below meth c hc H locs ls hP hS hl hn cs ss hcs hss
  obtain ⟨hx, hb, hr, hml, hown, hts, hX, hbl, hlocks, hK, hJ, hC, hA⟩ := id hc
  exact va_slen hx hb hX hbl (fun q => Nat.not_lt.mpr q hbl) hS hd (kk p e s m below meth c hc H locs ls hP hS hl hn cs ss hcs hss)
theorem l_sld {l : Launch} {G : GT} {b L : Nat} {xs : Nat → Int32} {pc n : Nat} {vs : List (Option Value)} {st : List Value} {M : Mem} {i : Int32} (hd : De mL pc .iaload 1 n) (hi : vp_in i L) (kk : LA l G b L xs n vs (.int (xs i.toNatClampNeg) :: st) M) : LA l G b L xs pc vs (.int i :: .ref b :: st) M := by
  obtain ⟨hd, rfl⟩ := hd
  intro p e s m below meth c hc H locs ls hP hS hl hn cs ss hcs hss
  obtain ⟨hx, hb, hr, hml, hown, hts, hX, hbl, hlocks, hK, hJ, hC, hA⟩ := id hc
  exact va_sld hx hb hX hbl (fun q => Nat.not_lt.mpr q hbl) hS hi hd (kk p e s m below meth c hc H locs ls hP hS hl hn cs ss hcs hss)
theorem l_ret {l : Launch} {G : GT} {b L : Nat} {xs : Nat → Int32} {pc n : Nat} {vs : List (Option Value)} {M : Mem} (hd : De mL pc .ireturn 1 n) : LA l G b L xs pc vs [.int 1] M := by
  obtain ⟨hd, rfl⟩ := hd
  intro p e s m below meth c hc H locs ls hP hS hl hn cs ss hcs hss
  obtain ⟨hx, hb, hr, hml, hown, hts, hX, hbl, hlocks, hK, hJ, hC, hA⟩ := id hc
  refine W.widen hcs hss (va_forget hS.2.2 ?_)
  exact lw_ret hx hb hr hlocks hd
theorem lw_goodL {y' : MT} (h : Cond.code y'.1 y'.2.1 y'.2.2.1 y'.2.2.2 ∈ lw_tblg) : GoodIn lw_tbl (wsY y') := by
  intro w hw
  rcases List.mem_cons.mp hw with rfl | hw
  · exact ⟨in_tbl h, (lw_good _ h).2⟩
  · exact ⟨in_tbl hw, (lw_good _ hw).2⟩
theorem l_callV {l : Launch} {G : GT} {b L : Nat} {xs : Nat → Int32} {pc n : Nat} {vs : List (Option Value)} {st stk : List Value} {M : Mem} {y' : MT} {idx k ci : Nat} {fl : List (Option Nat)} {T : u_T} {N : Nat} {np : Nat} (av : List Value) (hd : De mL pc (.invokevirtual idx) 3 n) (hsh : shp k = (0, ci, fl)) (hk : inK k = true) (hc2 : clz[ci]? = some (y'.1.cls, T, N)) (hl1 : Cond.methodLink RL idx y'.1 ∈ lw_tblg) (hl2 : Cond.instanceMethod y'.1 ∈ lw_tblg) (hl5 : Cond.selects y'.1.cls y'.1 y'.1 ∈ lw_tblg) (hl3 : Cond.initialized y'.1.cls ∈ lw_tblg) (hl4 : Cond.code y'.1 y'.2.1 y'.2.2.1 y'.2.2.2 ∈ lw_tblg)
    (hdd : y'.1.cls ≠ "java/lang/invoke/MethodHandle" ∧ y'.1.cls ≠ "java/lang/invoke/VarHandle" ∧ (parseMethodDescriptor y'.1.desc).map (fun d => d.parameters.length) = some np) (hlen : av.length = np) (hm : y'.2.2.1 ≤ 21) (hst : (st.map fun v => v.category).sum ≤ 8) (hstk : av.reverse ++ .ref (G.1 k) :: st = stk)
    (hT : Tr l G 1000 y' (.ref (G.1 k) :: av) M (fun r M' => LA l G b L xs n vs (r.toList ++ st) M')) : LA l G b L xs pc vs stk M := by
  obtain ⟨hd, rfl⟩ := hd
  intro p e s m below meth c hc H locs ls hP hS hl hn cs ss hcs hss
  obtain ⟨hx, hb, hr, hml, hown, hts, hX, hbl, hlocks, hK, hJ, hC, hA⟩ := id hc
  have hmem : ∀ w, w ∈ lw_tblg → w.before #[Value.ref b] s = true := fun w h => hts _ (in_tbl h)
  have hq : ∀ a : Nat, a < s.heap.size → ¬ GA G a → H[a]? = s.heap[a]? := fun a h1 _ => hS.2.1 a h1 (Nat.not_le.mpr h1)
  have hpre : PreS s H (va_Pc (.ref (G.1 k) :: av) (Wd G M)) (.ref (G.1 k) :: av) := ⟨fun a U g mk q => ⟨q.1, q.2.call g mk a⟩, fun U hU hW => ⟨rfl, by rw [hU]; exact hP, va_K.moved hW.alike hK, hJ, by rw [hU]; exact hC.warm hW hq⟩⟩
  obtain ⟨q, hq2, -⟩ := wl_at G M hk
  rw [cel_o G M hsh] at hq2
  have hr2 := va_runV (meth := meth) (p := p) (l := l) (e := e) (R := room_1) (below := below) (locs := locs) (cells := cs) (slots := ss) (As := av) (rest := st) (C := y'.1.cls) (g := F0 m pc ls stk) ⟨hx, hb, hml, hown, hts⟩ hT ⟨callB_of np hts (lw_goodL hl4) rfl rfl rfl (hmem _ hl3) (hmem _ hl1) hdd ⟨(show 1000 + 1 ≤ 2048 by decide), (show 8 + (y'.2.2.1 + 11) + 40 * 1000 ≤ 84000 by omega)⟩, hmem _ hl2, hmem _ hl5⟩ ⟨hpre.1, va_recv hK hP hc2 hq2, hpre.2⟩ rfl hlen (hl.1.trans hn) hstk.symm (lv_room hst) hd ⟨hcs, hss⟩
  have hAq : ∀ q, GA G q → fq s.heap.size q := fun q hq => by
    obtain ⟨k, h1, rfl⟩ := hq
    exact hA k h1
  intro T hT2 X
  obtain ⟨v, st₀, t, T', L', h0, X', hL, e1, e2, ⟨⟨r, M', hv, hat, hW1, -, -, -⟩, hz, hkk⟩, hst⟩ := hr2 T hT2 X
  cases hv
  rw [h0] at hz hkk
  have hS1 : va_S (fq s.heap.size) s.heap T'.heap (locs ++ L') := ⟨Nat.le_trans hS.1 (by rw [e1]; exact hz), fun q h1 h2 => by rw [e1, hkk q (Nat.lt_of_lt_of_le h1 hS.1) (fun h => h2 (hAq q h))]; exact hS.2.1 q h1 h2, fun q hq => by
      rcases List.mem_append.mp hq with h | h
      · exact hS.2.2 q h
      · exact hAq _ (hL q h)⟩
  obtain ⟨t2, a1, b1⟩ := hat p e s m below meth c hc T'.heap (locs ++ L') ls (by rw [e1]; exact hW1) hS1 hl hn cs ss hcs hss T' rfl X'
  exact ⟨t2, hst t2 a1, b1⟩
abbrev lvs (G : GT) (b i : Nat) : List (Option Value) := [some (.ref b), some (.ref (G.1 0)), some (.ref (G.1 100)), some (.int (nI i))]
/-- an argument: the script's int behind the row's head -/
theorem l_arg {l : Launch} {G : GT} {b L : Nat} {xs : Nat → Int32} {pc p1 p2 p3 p4 n i : Nat} {st : List Value} {M : Mem} {j : Nat} {z : Int} (hL : L ≤ 3072) (hi : i + 6 ≤ L) (hz : Int32.ofInt z = nI j) (hj : j < 6) (h1 : De mL pc (.aload_n 0) 1 p1) (h2 : De mL p1 (.iload_n 3) 1 p2) (h3 : De mL p2 (.iconst z) 1 p3) (h4 : De mL p3 .iadd 1 p4) (h5 : De mL p4 .iaload 1 n)
    (kk : LA l G b L xs n (lvs G b i) (.int (xs (i + j)) :: st) M) : LA l G b L xs pc (lvs G b i) st M := by
  refine l_aload_n h1 rfl (l_iload_n h2 rfl (l_iconst h3 hz (l_iadd h4 ?_)))
  have e : nI i + nI j = nI (i + j) := nI_add i j
  rw [e]
  refine l_sld h5 ?_ ?_
  · exact vpn (by omega) (by omega)
  · rw [show (nI (i + j)).toNatClampNeg = i + j from ix_nI (by omega)]
    exact kk
