-- multianewarray: the rows' table, and its 14 rows, out of the instruction's own text
theorem arrV_congr (c : ClassId) {N : Nat} {f f' : Nat → Value} (h : ∀ j, j < N → f j = f' j) : arrV c N f = arrV c N f' := by
  unfold arrV
  congr 1
  apply congrArg
  funext j
  exact h j.val j.isLt
theorem dn_none {t k : Nat} (h : (TT.take t).all (fun e => e.1 != 1 || e.2.1 != k) = true) (i : Nat) : dnT t k i = false := by
  unfold dnT
  rw [List.any_eq_false]
  intro e he
  have := List.all_eq_true.mp h e he
  simp only [Bool.or_eq_true, bne_iff_ne, ne_eq] at this
  rcases this with h1 | h1 <;> simp [h1]
def mu_ad (ad : Nat → Nat) (h : Nat) : Nat → Nat := fun j => if j = 2 then h else if 7 ≤ j ∧ j < 21 then h + 1 + (j - 7) else ad j
theorem mT_31 : ∀ k, mT 31 k = fun _ => 0 := by
  intro k
  unfold mT
  have h : ∀ (l : List Ev) (M : Mem), l.all (fun e => e.1 != 2) = true → l.foldl (fun M e => if e.1 = 2 then um M e.2.1 e.2.2.1 e.2.2.2 else M) M = M := by
    intro l
    induction l with
    | nil => intro M _; rfl
    | cons e l ih =>
      intro M h
      rw [List.all_cons, Bool.and_eq_true] at h
      rw [List.foldl_cons, if_neg (by simpa using h.1)]
      exact ih M h.2
  rw [h _ _ (by decide +kernel)]
theorem mT_2 : ∀ k, mT 2 k = fun _ => 0 := by
  intro k
  rfl
/-- the table behind i of its rows; a row; the heap with both -/
def muO (cA : ClassId) (h i : Nat) : Cell := arrV cA 14 (fun j => if j < i then .ref (h + 1 + j) else .null)
def muI (cO : ClassId) : Cell := arrV cO 96 (fun _ => .int 0)
def muS (S : State) (cA cO : ClassId) (i : Nat) : State := { S with heap := S.heap.push (muO cA S.heap.size i) ++ Array.replicate i (muI cO), slotsUsed := S.slotsUsed + (14 + i * 96) }
theorem muO_n {cA : ClassId} {h i : Nat} : (muO cA h i).slots.size = 14 := arrV_size _ _ _
theorem muI_n {cO : ClassId} : (muI cO).slots.size = 96 := arrV_size _ _ _
theorem muO_set (cA : ClassId) (h i : Nat) : (muO cA h i).setSlot i (.ref (h + 1 + i)) = muO cA h (i + 1) := by
  unfold muO
  rw [arrV_store]
  refine arrV_congr _ (fun j _ => ?_)
  show updV _ i _ j = (if j < i + 1 then Value.ref (h + 1 + j) else Value.null)
  unfold updV
  by_cases a : j = i
  · subst a
    rw [if_pos rfl, if_pos (Nat.lt_succ_self _)]
  · rw [if_neg a]
    show (if j < i then Value.ref (h + 1 + j) else Value.null) = _
    by_cases b : j < i
    · rw [if_pos b, if_pos (by omega)]
    · rw [if_neg b, if_neg (by omega)]
theorem mu_heap (H : Array Cell) (a b x : Cell) (i : Nat) : ((H.push a ++ Array.replicate i x).push x).setIfInBounds H.size b = H.push b ++ Array.replicate (i + 1) x := by
  apply Array.toList_inj.mp
  simp only [Array.toList_setIfInBounds, Array.toList_push, Array.toList_append, Array.toList_replicate, List.replicate_succ', List.append_assoc]
  rw [← Array.length_toList, List.set_append_right _ _ (Nat.le_refl _), Nat.sub_self]
  rfl
theorem mu_st {S : State} {h h' : Array Cell} {u u' : Nat} (e1 : h = h') (e2 : u = u') : ({ S with heap := h, slotsUsed := u } : State) = { S with heap := h', slotsUsed := u' } := by
  subst e1
  subst e2
  rfl
section
variable {S : State} {cA cO : ClassId}
theorem mu_0 : S.pushCell (muO cA S.heap.size 0) = muS S cA cO 0 := by
  unfold muS State.pushCell
  exact mu_st (by simp) (by rw [muO_n])
theorem mu_1 {i : Nat} : ((muS S cA cO i).pushCell (muI cO)).setCell S.heap.size (muO cA S.heap.size (i + 1)) = muS S cA cO (i + 1) := by
  unfold muS State.pushCell State.setCell
  exact mu_st (mu_heap _ _ _ _ _) (by rw [muI_n]; show S.slotsUsed + (14 + i * 96) + 96 = _; omega)
theorem mu_sz {i : Nat} : (muS S cA cO i).heap.size = S.heap.size + 1 + i := by simp [muS]
theorem mu_at {i : Nat} : (muS S cA cO i).heap[S.heap.size]? = some (muO cA S.heap.size i) := by
  show (S.heap.push (muO cA S.heap.size i) ++ Array.replicate i (muI cO))[S.heap.size]? = _
  rw [Array.getElem?_append_left (by simp), Array.getElem?_push, if_pos rfl]
theorem mu_old {i a : Nat} (h : a < S.heap.size) : (muS S cA cO i).heap[a]? = S.heap[a]? := by
  show (S.heap.push (muO cA S.heap.size i) ++ Array.replicate i (muI cO))[a]? = _
  rw [Array.getElem?_append_left (by rw [Array.size_push]; omega), Array.getElem?_push, if_neg (by omega)]
theorem mu_in {i j : Nat} (h : j < i) : (muS S cA cO i).heap[S.heap.size + 1 + j]? = some (muI cO) := by
  show (S.heap.push (muO cA S.heap.size i) ++ Array.replicate i (muI cO))[S.heap.size + 1 + j]? = _
  rw [Array.getElem?_append_right (by rw [Array.size_push]; omega), Array.size_push, Nat.add_sub_cancel_left, Array.getElem?_replicate, if_pos h]
theorem mu_stand {p : Program} {l : Launch} {e : Env} {R : Room} {s : State} {m : MethodId} {args : Array Value} {below : List Frame} {meth : Method} {c : Code} {T : State} {locs : List Loc} {cells slots : Nat} (X : Stand p l e R s m args below meth c T locs cells slots) (cA cO : ClassId) : ∀ i, Stand p l e R s m args below meth c (muS T cA cO i) locs (cells + (1 + i)) (slots + (14 + i * 96))
  | 0 => by
    have h := X.pushed (muO cA T.heap.size 0)
    rw [mu_0 (cO := cO), muO_n] at h
    exact h
  | i + 1 => by
    have g : ((muS T cA cO i).pushCell (muI cO)).heap[T.heap.size]? = some (muO cA T.heap.size i) := by
      have hl : T.heap.size < (muS T cA cO i).heap.size := by rw [mu_sz]; omega
      rw [State.heap_pushCell_of_lt (h := hl)]
      exact mu_at
    have h := (((mu_stand X cA cO i).pushed (muI cO)).stored g i (.ref (T.heap.size + 1 + i))).dropFresh (fun x hx => by
      rw [List.mem_singleton] at hx
      subst hx
      exact X.heapGrown)
    rw [muO_set, mu_1, muI_n] at h
    have e1 : slots + (14 + i * 96) + 96 = slots + (14 + (i + 1) * 96) := by omega
    rw [e1] at h
    exact h
variable {E : CtlPost} {e : Env} {d : Bool} {acts : List Action}
theorem mu_new {c comp : ClassId} {k : Class} {ty : FieldType} {N : Nat} {x : Value} (hk : S.vm.classes[c]? = some k) (hkind : k.kind = .array comp ty) (h1 : ¬ N > e.platform.arrayLengthLimit) (h2 : ¬ N * componentBytes ty > e.platform.maxHeapBytes) (hx : fits ty x = true) (hz : x.isDefault = true) (g1 : S.heap.size + 1 ≤ e.platform.maxCells) (g2 : S.slotsUsed + N ≤ e.platform.maxSlots) {Q : Addr → Pre} (hq : Q S.heap.size d acts (S.pushCell (arrV c N (fun _ => x)))) : wp (Jvm.newArray c N x) Q E e d acts S := by
  have f1 : ∀ i v, (Array.replicate N x)[i]? = some v → S.fitsSlot c .none i v = true := by
    intro i v hv
    rw [Array.getElem?_replicate] at hv
    split at hv
    · cases hv
      simp [State.fitsSlot, State.slotType?, hk, hkind, hx]
    · cases hv
  have f2 : allocActs (Array.replicate N x) S.heap.size acts = acts := by
    unfold allocActs
    rw [if_pos (by rw [Array.all_replicate]; split <;> simp [hz])]
  rw [← arrV_new] at hq
  unfold Jvm.newArray Jvm.arrayFits
  simp only [wp_bind', Jvm.W.ask, Jvm.W.ite, h1, if_false, wp_pure', Jvm.W.theClass, hk, hkind, h2, Jvm.W.alloc, Jvm.W.stop, Option.some.injEq, exists_eq_left', Array.size_replicate, f2]
  rw [if_neg (by omega)]
  exact ⟨g1, g2, f1, hq⟩
theorem mu_row {c0 : ClassId} {kO : Class} (hO : S.vm.classes[cO]? = some kO) (hO2 : kO.kind = .array c0 .int) (p1 : ¬ 96 > e.platform.arrayLengthLimit) (p2 : ¬ 384 > e.platform.maxHeapBytes) (g1 : S.heap.size + 1 ≤ e.platform.maxCells) (g2 : S.slotsUsed + 96 ≤ e.platform.maxSlots) {Q : Addr → Pre} (hq : Q S.heap.size d acts (S.pushCell (muI cO))) : wp (multianewarray.make cO [96]) Q E e d acts S := by
  have e96 : (96 : Int32).toNatClampNeg = 96 := by decide
  have n96 : ¬ (96 : Int32) < 0 := by decide
  rw [multianewarray.make]
  simp only [wp_bind', Jvm.W.ite, n96, if_false, wp_pure', Jvm.W.theClass, hO, hO2, Option.some.injEq, exists_eq_left', e96]
  exact mu_new hO hO2 p1 p2 rfl rfl g1 g2 hq
theorem mu_loop {f : Nat → PUnit → Sem (ForInStep PUnit)} (hf : ∀ (i : Nat) (d : Bool) (acts : List Action) (Q' : ForInStep PUnit → Pre), i < 14 → (∀ d' acts', Q' (ForInStep.yield PUnit.unit) d' acts' (muS S cA cO (i + 1))) → wp (f i PUnit.unit) Q' E e d acts (muS S cA cO i)) {Q : PUnit → Pre} (hq : ∀ d acts, Q PUnit.unit d acts (muS S cA cO 14)) : ∀ (m i : Nat) (d : Bool) (acts : List Action), i + m = 14 → wp (forIn (List.range' i m 1) PUnit.unit f) Q E e d acts (muS S cA cO i)
  | 0, i, d, acts, h => by
    have hi : i = 14 := by omega
    subst hi
    simp only [List.range'_zero, List.forIn_nil, wp_pure']
    exact hq _ _
  | m + 1, i, d, acts, h => by
    simp only [List.range'_succ, List.forIn_cons, wp_bind']
    exact hf i d acts _ (by omega) (fun d' acts' => mu_loop hf hq m (i + 1) d' acts' (by omega))
theorem mu_make {c0 : ClassId} {kA kO : Class} (hA : S.vm.classes[cA]? = some kA) (hA2 : kA.kind = .array cO (.array .int)) (hO : S.vm.classes[cO]? = some kO) (hO2 : kO.kind = .array c0 .int) (p1 : ¬ 96 > e.platform.arrayLengthLimit) (p2 : ¬ 384 > e.platform.maxHeapBytes) (g1 : S.heap.size + 15 ≤ e.platform.maxCells) (g2 : S.slotsUsed + 1358 ≤ e.platform.maxSlots) {Q : Addr → Pre} (hq : ∀ d' acts', Q S.heap.size d' acts' (muS S cA cO 14)) : wp (multianewarray.make cA [14, 96]) Q E e d acts S := by
  have e14 : (14 : Int32).toNatClampNeg = 14 := by decide
  have n14 : ¬ (14 : Int32) < 0 := by decide
  have z14 : ((14 : Int32) == 0) = false := by decide
  rw [multianewarray.make]
  simp only [wp_bind', Jvm.W.ite, n14, if_false, wp_pure', Jvm.W.theClass, hA, hA2, Option.some.injEq, exists_eq_left', e14, z14, Bool.false_eq_true]
  refine mu_new hA hA2 (by omega) (by show ¬ 14 * 4 > _; omega) rfl rfl (by omega) (by omega) ?_
  have e0 : S.pushCell (arrV cA 14 (fun _ => Value.null)) = muS S cA cO 0 := (congrArg S.pushCell (arrV_congr cA (fun j _ => (if_neg (Nat.not_lt_zero j)).symm))).trans mu_0
  rw [e0]
  try rw [wp_bind']
  rw [Std.Legacy.Range.forIn_eq_forIn_range']
  rw [show ([:14] : Std.Legacy.Range).size = 14 from rfl]
  refine mu_loop (fun i d acts Q' hi hnext => ?_) (fun d acts => ?_) 14 0 d acts rfl
  · simp only [wp_bind']
    refine mu_row (S := muS S cA cO i) hO hO2 p1 p2 (by rw [mu_sz]; omega) (by show S.slotsUsed + (14 + i * 96) + 96 ≤ _; omega) ?_
    simp only [wp_bind', Jvm.W.writeLoc, wp_pure']
    refine ⟨muO cA S.heap.size i, ?_, ?_, ?_, ?_, ?_⟩
    · have hl : S.heap.size < (muS S cA cO i).heap.size := by rw [mu_sz]; omega
      rw [State.heap_pushCell_of_lt (h := hl)]
      exact mu_at
    · intro h
      cases h
    · rw [muO_n]
      exact hi
    · have hv : (muS S cA cO i).vm = S.vm := rfl
      have hs : State.slotType? ((muS S cA cO i).pushCell (muI cO)) cA .none i = some (.array .int) := by
        simp [State.slotType?, hv, hA, hA2]
      show State.fitsSlot ((muS S cA cO i).pushCell (muI cO)) cA .none i _ = true
      unfold State.fitsSlot
      rw [hs]
      rfl
    · rw [mu_sz, muO_set, mu_1]
      exact hnext _ _
  · simp only [wp_pure']
    exact hq _ _
end
theorem mu_step {p : Program} {l : Launch} {e : Env} {R : Room} {s : State} {m : MethodId} {args : Array Value} {below : List Frame} {meth : Method} {c : Code} {T : State} {locs : List Loc} {cells slots : Nat} (X : Stand p l e R s m args below meth c T locs cells slots) (hx : p.tables.exec = Jvm.exec) {own : String} {idx pc : Nat} {ls : Array Slot} {st : List Value}
    (hown : s.vm.findClass own = some m.cls) (hw : (Cond.classLink own idx "[[I").before args s = true) (ho : (Cond.arrayOver (.array .int)).before args s = true) (ha : (Cond.arrayClass .int).before args s = true)
    (hd : decode c.code pc = .ok (.multianewarray idx 2, 4)) (hcs : cells + 15 ≤ R.cells) (hss : slots + 1358 ≤ R.slots) :
    ∃ (vm : Vm) (cA cO : ClassId), s.vm.findClass "[[I" = some cA ∧ s.vm.findClass "[I" = some cO ∧ Stand p l e R s m args below meth c (muS (T.setVm vm) cA cO 14) locs (cells + 15) (slots + 1358) ∧
      ∀ t, Steps p.tables e below ((muS (T.setVm vm) cA cO 14).setTop (F0 m (pc + 4) ls (.ref T.heap.size :: st))) t → Steps p.tables e below (T.setTop (F0 m pc ls (.int 96 :: .int 14 :: st))) t := by
  have hpl : e.platform.magicAccessors = ({} : Platform).magicAccessors := by rw [X.admits.platform]
  obtain ⟨cO, cA, kA, q1, -, q3, q4, q5⟩ := arrayOverA_spec ho
  obtain ⟨cO', kO, c0, r1, r2, r3⟩ := Cond.arrayClass_spec ha
  have e1 : cO' = cO := Option.some.inj (r1.symm.trans q1)
  subst e1
  obtain ⟨cA', g1, g2⟩ := Cond.classLink_spec hown hw e.platform hpl
  have e2 : cA' = cA := Option.some.inj (g1.symm.trans q5)
  subst e2
  obtain ⟨u1, u2, u3⟩ := State.classEntry (e := e) X.warmed g2
  generalize T.vm.noted m.cls idx (.cls cA') = vm at u1 u2 u3
  obtain ⟨kA1, a1, a2⟩ := u2.alike.2.2 _ _ q3
  obtain ⟨kO1, b1, b2⟩ := u2.alike.2.2 _ _ r2
  have a3 : kA1.kind = .array cO' (.array .int) := by rw [a2]; exact q4
  have b3 : kO1.kind = .array c0 .int := by rw [b2]; exact r3
  have X1 := mu_stand (X.noted u2) cA' cO' 14
  obtain ⟨z1, z2⟩ := X.roomAbove hcs hss
  refine ⟨vm, cA', cO', g1, r1, X1, fun t h => ?_⟩
  have p1 : ¬ 96 > e.platform.arrayLengthLimit := by rw [Launch.admits_arrayLengthLimit X.admits]; omega
  have p2 : ¬ 384 > e.platform.maxHeapBytes := by rw [Launch.admits_maxHeapBytes X.admits]; omega
  jvm_step X.here [hx, hd]
  simp only [multianewarray.sem, wp_bind', Jvm.W.resolveClassAt_links (State.method?_setTop (F0 m pc ls (.int 96 :: .int 14 :: st)) X.here.top) u1]
  rw [Jvm.W.popN, if_neg (by decide)]
  refine ⟨F0 m pc ls (.int 96 :: .int 14 :: st), State.topJava?_setTop' (s := T.setVm vm) _ X.here.top, [.int 14, .int 96], st, rfl, rfl, ?_⟩
  simp only [List.mapM_cons, List.mapM_nil, wp_bind', wp_pure']
  refine mu_make (c0 := c0) (kA := kA1) (kO := kO1) (cO := cO') a1 a3 b1 b3 p1 p2 (by show T.heap.size + 15 ≤ _; omega) (by show T.slotsUsed + 1358 ≤ _; omega) (fun d' acts' => ?_)
  have eS : ((T.setTop (F0 m pc ls (.int 96 :: .int 14 :: st))).setVm vm).setTop (F0 m pc ls st) = (T.setVm vm).setTop (F0 m pc ls st) := State.setTop_setTop (T.setVm vm) _ _
  have eM : muS (((T.setTop (F0 m pc ls (.int 96 :: .int 14 :: st))).setVm vm).setTop (F0 m pc ls st)) cA' cO' 14 = (muS (T.setVm vm) cA' cO' 14).setTop (F0 m pc ls st) := by rw [eS]; rfl
  show wp _ _ _ _ _ _ (muS (((T.setTop (F0 m pc ls (.int 96 :: .int 14 :: st))).setVm vm).setTop (F0 m pc ls st)) cA' cO' 14)
  rw [eM]
  simp only [wp_bind', Jvm.W.mark, Jvm.W.pushRef, State.topJava?_setTop' _ X1.here.top, Option.some.injEq, exists_eq_left', State.setTop_setTop, State.heap_setTop]
  intro acts
  simp [jvm, X1.here.top]
  exact h
theorem c_multi {l : Launch} {g : GT} {N0 d mc ms : Nat} {y : MT} {tE pc n : Nat} {vs : List (Option Value)} {st : List Value} {ad : Nat → Nat} {cs ss idx : Nat} (hd : De y pc (.multianewarray idx 2) 4 n) (hw : Cond.classLink y.1.cls idx "[[I" ∈ lw_tblg) (hcs : cs + 15 ≤ mc) (hss : ss + 1358 ≤ ms)
    (kk : ∀ ad' : Nat → Nat, (∀ j ∈ ksT 2, ad' j = ad j) → AC l g N0 d mc ms y tE n vs (.ref (ad' 2) :: st) 31 ad' (cs + 15) (ss + 1358)) : AC l g N0 d mc ms y tE pc vs (.int 96 :: .int 14 :: st) 2 ad cs ss := by
  obtain ⟨hd, rfl⟩ := hd
  intro p e s m args below meth c hc H locs ls hP hD hS hl hn
  obtain ⟨hx, hb, hr, hml, hown, hts, hlocks, hK, hC, hN0, hnm0⟩ := id hc
  have hmem : ∀ w, w ∈ lw_tblg → w.before args s = true := fun w h => hts _ (List.mem_cons_of_mem _ h)
  intro T hT X
  obtain ⟨vm₁, cA, comp, hfA, hfC, X1, step⟩ := mu_step X hx (ls := ls) (st := st) hown (hmem _ hw) (AOi.use hC.2.2.2) (hmem _ ac_i) (by rw [hb]; exact hd) (show cs + 15 ≤ mc from hcs) (show ss + 1358 ≤ ms from hss)
  have hcA : cA = g.2.2.1 1 := Option.some.inj (hfA.symm.trans (hK.2 1 (g.2.2.1 1, .array .int) rfl).2)
  have hcO : comp = g.2.2.1 0 := Option.some.inj (hfC.symm.trans (hK.2 0 (g.2.2.1 0, .int) rfl).2)
  subst hcA
  subst hcO
  have f1 : (muS (T.setVm vm₁) (g.2.2.1 1) (g.2.2.1 0) 14).heap.size = T.heap.size + 1 + 14 := mu_sz
  have f2 : (muS (T.setVm vm₁) (g.2.2.1 1) (g.2.2.1 0) 14).heap[T.heap.size]? = some (muO (g.2.2.1 1) T.heap.size 14) := mu_at (S := T.setVm vm₁)
  have f3 : ∀ a : Nat, a < T.heap.size → (muS (T.setVm vm₁) (g.2.2.1 1) (g.2.2.1 0) 14).heap[a]? = T.heap[a]? := fun a ha => mu_old (S := T.setVm vm₁) ha
  have f4 : ∀ j, j < 14 → (muS (T.setVm vm₁) (g.2.2.1 1) (g.2.2.1 0) 14).heap[T.heap.size + 1 + j]? = some (muI (g.2.2.1 0)) := fun j hj => mu_in (S := T.setVm vm₁) hj
  generalize muS (T.setVm vm₁) (g.2.2.1 1) (g.2.2.1 0) 14 = F at X1 step f1 f2 f3 f4
  have hm31 : ∀ k ∈ ksT 31, k ∈ ksT 2 ∨ k = 2 ∨ (7 ≤ k ∧ k < 21) := by decide +kernel
  have hm2 : ∀ k ∈ ksT 2, k < 2 := by decide +kernel
  have hlt : ∀ k ∈ ksT 2, ad k < T.heap.size := fun k hk => by rw [hT]; exact (wt_P.mp hP k hk).lt
  have hh : ∀ k ∈ ksT 2, mu_ad ad T.heap.size k = ad k := fun k hk => by
    have := hm2 k hk
    unfold mu_ad
    rw [if_neg (by omega), if_neg (by omega)]
  have hP1 : va_P g.2.1 clz (wt g (mu_ad ad T.heap.size) 31) F.heap := by
    rw [wt_P]
    intro k hk
    rcases hm31 k hk with h | rfl | h
    · rw [hh k h, celT_cong (ad := ad) (t := 2)]
      · refine (wt_P.mp hP k h).kept ?_
        rw [← hT]
        exact f3 _ (hlt k h)
      · intro i
        have h9 : ∀ k, k < 2 → (TT.take 31).all (fun e => e.1 != 1 || e.2.1 != k) = true ∧ (TT.take 2).all (fun e => e.1 != 1 || e.2.1 != k) = true := by decide +kernel
        rw [dn_none (h9 k (hm2 k h)).1, dn_none (h9 k (hm2 k h)).2]
      · rw [mT_31, mT_2]
      · intro i j hdn
        have h9 : ∀ k, k < 2 → (TT.take 2).all (fun e => e.1 != 1 || e.2.1 != k) = true := by decide +kernel
        rw [dn_none (h9 k (hm2 k h))] at hdn
        cases hdn
    · rw [celT_q (k := 2) (q := 1) (n := 14) (fl := [some 7, some 8, some 9, some 10, some 11, some 12, some 13, some 14, some 15, some 16, some 17, some 18, some 19, some 20]) rfl]
      show F.heap[mu_ad ad T.heap.size 2]? = some (vp_cell _ _)
      rw [show mu_ad ad T.heap.size 2 = T.heap.size from rfl, f2, vp_cell_q]
      unfold muO
      refine congrArg some (arrV_congr _ (fun j hj => ?_))
      have h1 : ∀ j, j < 14 → dnT 31 2 j = true ∧ [some 7, some 8, some 9, some 10, some 11, some 12, some 13, some 14, some 15, some 16, some 17, some 18, some 19, some 20].getD j none = some (7 + j) := by decide +kernel
      rw [if_pos hj, if_pos (h1 j hj).1, (h1 j hj).2]
      show _ = va_rf (some (mu_ad ad T.heap.size (7 + j)))
      unfold mu_ad
      rw [if_neg (by omega), if_pos ⟨by omega, by omega⟩, show 7 + j - 7 = j by omega]
      rfl
    · have hs : ∀ k, 7 ≤ k → k < 21 → shp k = (1, 96, []) := by
        intro k h1 h2
        have h9 : ∀ k, k < 21 → 7 ≤ k → shp k = (1, 96, []) := by decide +kernel
        exact h9 k h2 h1
      rw [celT_i (hs k h.1 h.2), mT_31]
      show F.heap[mu_ad ad T.heap.size k]? = some (vp_cell _ _)
      have e1 : mu_ad ad T.heap.size k = T.heap.size + 1 + (k - 7) := by unfold mu_ad; rw [if_neg (by omega), if_pos h]
      rw [e1, f4 (k - 7) (by omega), vp_cell_i]
      rfl
  have hD1 : va_D (fq N0) (wt g (mu_ad ad T.heap.size) 31) := by
    rw [wt_D]
    have hD0 := wt_D.mp hD
    have hNT : N0 ≤ T.heap.size := by rw [hT]; exact Nat.le_trans hN0 hS.1
    have hv : ∀ k ∈ ksT 31, (k ∈ ksT 2 ∧ mu_ad ad T.heap.size k = ad k ∧ ad k < T.heap.size) ∨ (k = 2 ∧ mu_ad ad T.heap.size k = T.heap.size) ∨ (7 ≤ k ∧ k < 21 ∧ mu_ad ad T.heap.size k = T.heap.size + 1 + (k - 7)) := by
      intro k hk
      rcases hm31 k hk with h | rfl | h
      · exact Or.inl ⟨h, hh k h, hlt k h⟩
      · exact Or.inr (Or.inl ⟨rfl, rfl⟩)
      · exact Or.inr (Or.inr ⟨h.1, h.2, by unfold mu_ad; rw [if_neg (by omega), if_pos h]⟩)
    refine ⟨fun i hi j hj e => ?_, fun i hi => ?_⟩
    · rcases hv i hi with ⟨a1, a2, a3⟩ | ⟨a1, a2⟩ | ⟨a1, a2, a3⟩ <;> rcases hv j hj with ⟨b1, b2, b3⟩ | ⟨b1, b2⟩ | ⟨b1, b2, b3⟩
      · exact hD0.1 i a1 j b1 (by omega)
      all_goals omega
    · show N0 ≤ _
      rcases hv i hi with ⟨a1, a2, a3⟩ | ⟨a1, a2⟩ | ⟨a1, a2, a3⟩
      · rw [a2]; exact hD0.2 i a1
      · omega
      · omega
  have hS1 : va_S (fq N0) s.heap F.heap locs := ⟨Nat.le_trans hS.1 (by rw [← hT]; omega), fun q h1 h2 => by
      have := hS.2.1 q h1 h2
      rw [← hT] at this
      rw [f3 q (by rw [hT]; exact Nat.lt_of_lt_of_le h1 hS.1)]
      exact this, hS.2.2⟩
  have k9 := W_mono (fun _ => MQ_mono (fun _ _ => QC.mono (t := 2) (t' := 31) (ad := ad) (by decide) hh)) (kk (mu_ad ad T.heap.size) hh p e s m args below meth c hc F.heap locs ls hP1 hD1 hS1 hl hn)
  obtain ⟨t3, a1, b1⟩ := k9 F rfl X1
  exact ⟨t3, step t3 a1, b1⟩
