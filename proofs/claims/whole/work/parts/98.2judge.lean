-- the constructors: the judgements
def AOi (U : State) : Prop := (Cond.arrayOver (.array .int)).before #[] U = true
theorem AOi.of {A : Array Value} {U : State} (h : (Cond.arrayOver (.array .int)).before A U = true) : AOi U := h
theorem AOi.use {A : Array Value} {U : State} (h : AOi U) : (Cond.arrayOver (.array .int)).before A U = true := h
theorem AOi.moved {u U : State} (hvm : u.vm.Alike U.vm) (h : AOi u) : AOi U := by
  obtain ⟨comp, c, k, h1, h2, h3, h4, h5⟩ := arrayOverA_spec h
  obtain ⟨k', hk', he⟩ := hvm.2.2 _ _ h3
  have hi : (U.vm.classes.findIdx? fun (x : Class) => match x.kind with | .array component _ => component == comp | _ => false) = some c := by
    refine (va_idx_bare U.vm comp).symm.trans ?_
    first | rw [hvm.bare_eq] | rw [← hvm.bare_eq]
    exact (va_idx_bare u.vm comp).trans h2
  have hkind : k'.kind = .array comp (.array .int) := by rw [he]; exact h4
  have f1 : U.vm.findClass (FieldType.array .int).toString = some comp := by rw [hvm.findClass]; exact h1
  have f2 : U.vm.findClass ("[" ++ (FieldType.array .int).toString) = some c := by rw [hvm.findClass]; exact h5
  unfold AOi Cond.before Cond.holds
  simp only [Cond.value]
  rw [f1, Option.bind_some]
  refine (congrArg (fun o : Option Nat => (o.bind (fun c => (U.vm.classes[c]?).map fun (k : Class) => match k.kind with | .array _ ty => decide (ty = FieldType.array .int) && decide (U.vm.findClass ("[" ++ (FieldType.array .int).toString) = some c) | _ => false) == some true)) hi).trans ?_
  simp [hk', hkind, f2]
def nst : List (String × Nat × MethodName) := [(RX7, 9, yX2_init), (RX7, 18, yX5_init), (RX7, 40, yX6_init), (RX7, 58, yX3_init), (RX7, 65, yX4_init), (RX4, 17, yX3_init)]
def KN (U : State) : Prop := (∀ q ∈ nst, va_Nw (.methodLinkNest q.1 q.2.1 q.2.2 "TattooRoads") U) ∧ va_AO RX3 U ∧ va_AO RX4 U ∧ AOi U
theorem KN.call {U : State} (g : JFrame) (mk : MethodId) (a : Array Value) (h : KN U) : KN (U.calling g mk a) := by
  have hv : U.vm.Alike (U.calling g mk a).vm := Vm.Alike.refl U.vm
  exact ⟨fun q hq => va_Nw.same (u := U) rfl rfl (h.1 q hq), h.2.1.moved hv, h.2.2.1.moved hv, h.2.2.2.moved hv⟩
theorem KN.warm {s U : State} (hW : s.WarmedH U.vm) (h : KN s) : KN U := ⟨fun q hq => va_Nw.warmM hW (h.1 q hq), h.2.1.moved hW.alike, h.2.2.1.moved hW.alike, h.2.2.2.moved hW.alike⟩
def rmC (d mc ms : Nat) : Room := { frames := d, cells := mc, slots := ms, locals := 40 * d }
def fq (N0 : Nat) : Nat → Prop := fun q => N0 ≤ q
/-- the world at a place of the trace -/
def CG (g : GT) (N0 : Nat) (ad : Nat → Nat) (t : Nat) (U : State) : Prop := va_P g.2.1 clz (wt g ad t) U.heap ∧ va_D (fq N0) (wt g ad t) ∧ va_K g.2.1 clz (tyz g) U ∧ KN U ∧ N0 ≤ U.heap.size
theorem CG.call {g : GT} {N0 : Nat} {ad : Nat → Nat} {t : Nat} {U : State} (f : JFrame) (mk : MethodId) (a : Array Value) (h : CG g N0 ad t U) : CG g N0 ad t (U.calling f mk a) :=
  ⟨h.1, h.2.1, va_K.moved (u := U) (U := U.calling f mk a) (Vm.Alike.refl U.vm) h.2.2.1, h.2.2.2.1.call f mk a, h.2.2.2.2⟩
def QC (g : GT) (N0 tE t : Nat) (ad : Nat → Nat) : Array Value → State → Outcome → State → Prop := fun _ st oc U => (∃ ad' : Nat → Nat, oc = .returned none ∧ (∀ k ∈ ksT t, ad' k = ad k) ∧ CG g N0 ad' tE U) ∧ va_F (fq N0) st U
theorem QC.mono {g : GT} {N0 tE t t' : Nat} {ad ad' : Nat → Nat} (ht : t ≤ t') (h : ∀ k ∈ ksT t, ad' k = ad k) {a : Array Value} {st : State} {oc : Outcome} {U : State} (q : QC g N0 tE t' ad' a st oc U) : QC g N0 tE t ad a st oc U := by
  obtain ⟨⟨ad2, h1, h2, h3⟩, h4⟩ := q
  exact ⟨⟨ad2, h1, fun k hk => (h2 k (ks_mono ht hk)).trans (h k hk), h3⟩, h4⟩
/-- the constructor y, called with av at t: it comes back at tE -/
def TrC (l : Launch) (g : GT) (N0 d mc ms : Nat) (y : MT) (av : List Value) (t tE : Nat) (ad : Nat → Nat) : Prop := Met l y.1 (wsY y) (rmC d mc ms) (va_Pc av (CG g N0 ad t)) (QC g N0 tE t ad) mc ms (fq N0)
def CxC (p : Program) (y : MT) (s : State) (m : MethodId) (args : Array Value) (meth : Method) (c : Code) (g : GT) (N0 : Nat) : Prop :=
  p.tables.exec = Jvm.exec ∧ c.code = y.2.1 ∧ meth.sig.returnType = y.2.2.2 ∧ c.maxLocals = y.2.2.1 ∧ s.vm.findClass y.1.cls = some m.cls ∧ (∀ w ∈ wsY y, w.before args s = true) ∧ meth.locks = false ∧ va_K g.2.1 clz (tyz g) s ∧ KN s ∧ N0 ≤ s.heap.size ∧ meth.name = y.1.name
def AC (l : Launch) (g : GT) (N0 d mc ms : Nat) (y : MT) (tE pc : Nat) (vs : List (Option Value)) (st : List Value) (t : Nat) (ad : Nat → Nat) (cs ss : Nat) : Prop :=
  ∀ (p : Program) (e : Env) (s : State) (m : MethodId) (args : Array Value) (below : List Frame) (meth : Method) (c : Code), CxC p y s m args meth c g N0 → ∀ (H : Heap) (locs : List Loc) (ls : Array Slot), va_P g.2.1 clz (wt g ad t) H → va_D (fq N0) (wt g ad t) → va_S (fq N0) s.heap H locs → Lo ls vs → vs.length = y.2.2.1 →
    W p l e (rmC d mc ms) s m args below meth c H locs cs ss (MQ below (QC g N0 tE t ad) args s mc ms (fq N0)) (F0 m pc ls st)
theorem MQ_mono {below : List Frame} {Q Q' : Array Value → State → Outcome → State → Prop} {a : Array Value} {s : State} {mc ms : Nat} {free : Addr → Prop} (h : ∀ o t, Q a s o t → Q' a s o t) {t : State} (q : MQ below Q a s mc ms free t) : MQ below Q' a s mc ms free t := by
  obtain ⟨o, h1, h2, h3, h4⟩ := q
  exact ⟨o, h1, h2, h _ _ h3, h4⟩
theorem W_mono {p : Program} {l : Launch} {e : Env} {R : Room} {s : State} {m : MethodId} {args : Array Value} {below : List Frame} {meth : Method} {c : Code} {H : Heap} {locs : List Loc} {cells slots : Nat} {Q Q' : State → Prop} {f : JFrame} (h : ∀ t, Q t → Q' t) (k : W p l e R s m args below meth c H locs cells slots Q f) : W p l e R s m args below meth c H locs cells slots Q' f := by
  intro T hT X
  obtain ⟨t, a, b⟩ := k T hT X
  exact ⟨t, a, h t b⟩
theorem TrC.of {l : Launch} {g : GT} {N0 d mc ms : Nat} {y : MT} {av : List Value} {t tE : Nat} {ad : Nat → Nat} (hy : plainName y.1.cls = true) (hl : (va_lo av).length ≤ y.2.2.1) {vs : List (Option Value)} (hv : loE av y.2.2.1 = vs) (k : AC l g N0 d mc ms y tE 0 vs [] t ad 0 0) : TrC l g N0 d mc ms y av t tE ad := by
  subst hv
  refine Met.ofW (cc := y.2.1) (maxL := y.2.2.1) (ret := y.2.2.2) hy rfl ?_
  intro p e s m args below meth c s₁ B hml hv
  obtain ⟨rfl, hP, hD, hK, hC, hN⟩ := hv
  rw [lg_entry_eq]
  refine k p e s m _ below meth c ⟨B.exec, B.bytes, B.returns, hml, findClass_of_methodNamed B.named, atoms_spec (ws := wsY y) B.pre, B.notSynchronized, hK, hC, hN, (name_of_methodNamed B.named B.method).1⟩ s.heap [] _ hP hD va_S.rf (Lo.entry av hl) ?_
  simp only [loE, List.length_append, List.length_replicate]
  omega
-- rows
theorem c_iconst {l : Launch} {g : GT} {N0 d mc ms : Nat} {y : MT} {tE pc n : Nat} {vs : List (Option Value)} {st : List Value} {t : Nat} {ad : Nat → Nat} {cs ss : Nat} {k : Int} {v : Int32} (hd : De y pc (.iconst k) 1 n) (hv : Int32.ofInt k = v) (kk : AC l g N0 d mc ms y tE n vs (.int v :: st) t ad cs ss) : AC l g N0 d mc ms y tE pc vs st t ad cs ss := by
  obtain ⟨hd, rfl⟩ := hd
  intro p e s m args below meth c hc H locs ls hP hD hS hl hn
  obtain ⟨hx, hb, hr, hml, hown, hts, hlocks, hK, hC, hN0, hnm0⟩ := id hc
  exact lv_iconst hx hb hd hv (kk p e s m args below meth c hc H locs ls hP hD hS hl hn)
theorem c_bipush {l : Launch} {g : GT} {N0 d mc ms : Nat} {y : MT} {tE pc n : Nat} {vs : List (Option Value)} {st : List Value} {t : Nat} {ad : Nat → Nat} {cs ss : Nat} {k : Int} {v : Int32} (hd : De y pc (.bipush k) 2 n) (hv : (Int8.ofInt k).toInt32 = v) (kk : AC l g N0 d mc ms y tE n vs (.int v :: st) t ad cs ss) : AC l g N0 d mc ms y tE pc vs st t ad cs ss := by
  obtain ⟨hd, rfl⟩ := hd
  intro p e s m args below meth c hc H locs ls hP hD hS hl hn
  obtain ⟨hx, hb, hr, hml, hown, hts, hlocks, hK, hC, hN0, hnm0⟩ := id hc
  exact lv_bipush hx hb hd hv (kk p e s m args below meth c hc H locs ls hP hD hS hl hn)
theorem c_sipush {l : Launch} {g : GT} {N0 d mc ms : Nat} {y : MT} {tE pc n : Nat} {vs : List (Option Value)} {st : List Value} {t : Nat} {ad : Nat → Nat} {cs ss : Nat} {k : Int} {v : Int32} (hd : De y pc (.sipush k) 3 n) (hv : (Int16.ofInt k).toInt32 = v) (kk : AC l g N0 d mc ms y tE n vs (.int v :: st) t ad cs ss) : AC l g N0 d mc ms y tE pc vs st t ad cs ss := by
  obtain ⟨hd, rfl⟩ := hd
  intro p e s m args below meth c hc H locs ls hP hD hS hl hn
  obtain ⟨hx, hb, hr, hml, hown, hts, hlocks, hK, hC, hN0, hnm0⟩ := id hc
  exact lv_sipush hx hb hd hv (kk p e s m args below meth c hc H locs ls hP hD hS hl hn)
theorem c_ldc {l : Launch} {g : GT} {N0 d mc ms : Nat} {y : MT} {tE pc n : Nat} {vs : List (Option Value)} {st : List Value} {t : Nat} {ad : Nat → Nat} {cs ss : Nat} {k : Nat} {v : Int32} (hd : De y pc (.ldc k) 2 n) (hw : Cond.constant y.1.cls k v ∈ lw_tblg) (kk : AC l g N0 d mc ms y tE n vs (.int v :: st) t ad cs ss) : AC l g N0 d mc ms y tE pc vs st t ad cs ss := by
  obtain ⟨hd, rfl⟩ := hd
  intro p e s m args below meth c hc H locs ls hP hD hS hl hn
  obtain ⟨hx, hb, hr, hml, hown, hts, hlocks, hK, hC, hN0, hnm0⟩ := id hc
  exact lv_ldc hx hb hown (hts _ (List.mem_cons_of_mem _ hw)) hd (kk p e s m args below meth c hc H locs ls hP hD hS hl hn)
theorem c_iload_n {l : Launch} {g : GT} {N0 d mc ms : Nat} {y : MT} {tE pc n : Nat} {vs : List (Option Value)} {st : List Value} {t : Nat} {ad : Nat → Nat} {cs ss : Nat} {k : Fin 4} {x : Int32} (hd : De y pc (.iload_n k) 1 n) (hv : vs[(k : Nat)]? = some (some (.int x))) (kk : AC l g N0 d mc ms y tE n vs (.int x :: st) t ad cs ss) : AC l g N0 d mc ms y tE pc vs st t ad cs ss := by
  obtain ⟨hd, rfl⟩ := hd
  intro p e s m args below meth c hc H locs ls hP hD hS hl hn
  obtain ⟨hx, hb, hr, hml, hown, hts, hlocks, hK, hC, hN0, hnm0⟩ := id hc
  exact lv_iload_n hx hb hd rfl (hl.2.2 _ _ hv) (kk p e s m args below meth c hc H locs ls hP hD hS hl hn)
theorem c_aload_n {l : Launch} {g : GT} {N0 d mc ms : Nat} {y : MT} {tE pc n : Nat} {vs : List (Option Value)} {st : List Value} {t : Nat} {ad : Nat → Nat} {cs ss : Nat} {k : Fin 4} {x : Nat} (hd : De y pc (.aload_n k) 1 n) (hv : vs[(k : Nat)]? = some (some (.ref x))) (kk : AC l g N0 d mc ms y tE n vs (.ref x :: st) t ad cs ss) : AC l g N0 d mc ms y tE pc vs st t ad cs ss := by
  obtain ⟨hd, rfl⟩ := hd
  intro p e s m args below meth c hc H locs ls hP hD hS hl hn
  obtain ⟨hx, hb, hr, hml, hown, hts, hlocks, hK, hC, hN0, hnm0⟩ := id hc
  exact lv_aload_n hx hb hd rfl (hl.2.2 _ _ hv) (kk p e s m args below meth c hc H locs ls hP hD hS hl hn)
theorem c_istore_n {l : Launch} {g : GT} {N0 d mc ms : Nat} {y : MT} {tE pc n : Nat} {vs : List (Option Value)} {st : List Value} {t : Nat} {ad : Nat → Nat} {cs ss : Nat} {k : Fin 4} {x : Int32} {vs' : List (Option Value)} (hd : De y pc (.istore_n k) 1 n) (hi : vs.all (fun o => match o with | none => true | some w => w.category == 1) = true) (hlt : (k : Nat) < vs.length) (hv : vs.set (k : Nat) (some (.int x)) = vs') (kk : AC l g N0 d mc ms y tE n vs' st t ad cs ss) : AC l g N0 d mc ms y tE pc vs (.int x :: st) t ad cs ss := by
  obtain ⟨hd, rfl⟩ := hd
  intro p e s m args below meth c hc H locs ls hP hD hS hl hn
  obtain ⟨hx, hb, hr, hml, hown, hts, hlocks, hK, hC, hN0, hnm0⟩ := id hc
  obtain ⟨ls', e', h'⟩ := hl.set (v := .int x) hlt rfl hi
  have kk := kk p e s m args below meth c hc H locs ls' hP hD hS (hv ▸ h') (by rw [← hv, List.length_set]; exact hn)
  intro T hT X
  obtain ⟨t1, a, b⟩ := kk T hT X
  refine ⟨t1, ?_, b⟩
  jvm_step X.here [X.here.top, ↓top_set X.here.top, hx, hb, hd, e']
  exact a
theorem c_iinc {l : Launch} {g : GT} {N0 d mc ms : Nat} {y : MT} {tE pc n : Nat} {vs : List (Option Value)} {st : List Value} {t : Nat} {ad : Nat → Nat} {cs ss : Nat} {k : Nat} {z : Int} {x v : Int32} {vs' : List (Option Value)} (hd : De y pc (.iinc k z) 3 n) (hi : vs.all (fun o => match o with | none => true | some w => w.category == 1) = true) (hx0 : vs[k]? = some (some (.int x))) (hz : Int32.ofInt z = v) (hv : vs.set k (some (.int (x + v))) = vs') (kk : AC l g N0 d mc ms y tE n vs' st t ad cs ss) : AC l g N0 d mc ms y tE pc vs st t ad cs ss := by
  subst hz
  obtain ⟨hd, rfl⟩ := hd
  intro p e s m args below meth c hc H locs ls hP hD hS hl hn
  obtain ⟨hx, hb, hr, hml, hown, hts, hlocks, hK, hC, hN0, hnm0⟩ := id hc
  obtain ⟨ls', e', h'⟩ := hl.set (v := .int (x + Int32.ofInt z)) (List.getElem?_eq_some_iff.mp hx0).1 rfl hi
  have hg := hl.2.2 _ _ hx0
  have kk := kk p e s m args below meth c hc H locs ls' hP hD hS (hv ▸ h') (by rw [← hv, List.length_set]; exact hn)
  intro T hT X
  obtain ⟨t1, a, b⟩ := kk T hT X
  refine ⟨t1, ?_, b⟩
  jvm_step X.here [X.here.top, ↓top_set X.here.top, hx, hb, hd, hg, e']
  exact a
theorem c_dup {l : Launch} {g : GT} {N0 d mc ms : Nat} {y : MT} {tE pc n : Nat} {vs : List (Option Value)} {st : List Value} {t : Nat} {ad : Nat → Nat} {cs ss : Nat} {v : Value} (hd : De y pc .dup 1 n) (hv : v.category = 1) (kk : AC l g N0 d mc ms y tE n vs (v :: v :: st) t ad cs ss) : AC l g N0 d mc ms y tE pc vs (v :: st) t ad cs ss := by
  obtain ⟨hd, rfl⟩ := hd
  intro p e s m args below meth c hc H locs ls hP hD hS hl hn
  obtain ⟨hx, hb, hr, hml, hown, hts, hlocks, hK, hC, hN0, hnm0⟩ := id hc
  exact lv_dup hx hb hd hv (kk p e s m args below meth c hc H locs ls hP hD hS hl hn)
theorem c_goto {l : Launch} {g : GT} {N0 d mc ms : Nat} {y : MT} {tE pc n : Nat} {vs : List (Option Value)} {st : List Value} {t : Nat} {ad : Nat → Nat} {cs ss : Nat} {off : Int} {tgt : Nat} (hd : De y pc (.goto off) 3 n) (ht : (pc : Int) + off = (tgt : Int)) (kk : AC l g N0 d mc ms y tE tgt vs st t ad cs ss) : AC l g N0 d mc ms y tE pc vs st t ad cs ss := by
  obtain ⟨hd, rfl⟩ := hd
  intro p e s m args below meth c hc H locs ls hP hD hS hl hn
  obtain ⟨hx, hb, hr, hml, hown, hts, hlocks, hK, hC, hN0, hnm0⟩ := id hc
  exact lv_goto hx hb hd ht (kk p e s m args below meth c hc H locs ls hP hD hS hl hn)
theorem c_icmp_ge {l : Launch} {g : GT} {N0 d mc ms : Nat} {y : MT} {tE pc n : Nat} {vs : List (Option Value)} {st : List Value} {t : Nat} {ad : Nat → Nat} {cs ss : Nat} {x z : Int32} {off : Int} {tgt : Nat} (hd : De y pc (.if_icmp .ge off) 3 n) (ht : (pc : Int) + off = (tgt : Int)) (kt : z ≤ x → AC l g N0 d mc ms y tE tgt vs st t ad cs ss) (kf : ¬ (z ≤ x) → AC l g N0 d mc ms y tE n vs st t ad cs ss) : AC l g N0 d mc ms y tE pc vs (.int z :: .int x :: st) t ad cs ss := by
  obtain ⟨hd, rfl⟩ := hd
  intro p e s m args below meth c hc H locs ls hP hD hS hl hn
  obtain ⟨hx, hb, hr, hml, hown, hts, hlocks, hK, hC, hN0, hnm0⟩ := id hc
  exact lv_icmp_ge hx hb hd ht (fun h => kt h p e s m args below meth c hc H locs ls hP hD hS hl hn) (fun h => kf h p e s m args below meth c hc H locs ls hP hD hS hl hn)
