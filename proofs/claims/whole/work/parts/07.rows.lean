abbrev ix (i : Int32) : Nat := i.toNatClampNeg
theorem a_iconst {l : Launch} {G : GT} {d : Nat} {y : MT} {pc n : Nat} {vs : List (Option Value)} {st : List Value} {M : Mem} {R : Option Value → Mem → Prop} {k : Int} {v : Int32} (hd : De y pc (.iconst k) 1 n) (hv : Int32.ofInt k = v) (kk : At l G d y n vs (.int v :: st) M R) : At l G d y pc vs st M R := by
  obtain ⟨hd, rfl⟩ := hd
  intro p e s m args below meth c hc H locs ls hP hS hl hn
  obtain ⟨hx, hb, hr, hml, hown, hts, hlocks, hK, hJ, hC⟩ := id hc
  exact lv_iconst hx hb hd hv (kk p e s m args below meth c hc H locs ls hP hS hl hn)
theorem a_bipush {l : Launch} {G : GT} {d : Nat} {y : MT} {pc n : Nat} {vs : List (Option Value)} {st : List Value} {M : Mem} {R : Option Value → Mem → Prop} {k : Int} {v : Int32} (hd : De y pc (.bipush k) 2 n) (hv : (Int8.ofInt k).toInt32 = v) (kk : At l G d y n vs (.int v :: st) M R) : At l G d y pc vs st M R := by
  obtain ⟨hd, rfl⟩ := hd
  intro p e s m args below meth c hc H locs ls hP hS hl hn
  obtain ⟨hx, hb, hr, hml, hown, hts, hlocks, hK, hJ, hC⟩ := id hc
  exact lv_bipush hx hb hd hv (kk p e s m args below meth c hc H locs ls hP hS hl hn)
theorem a_sipush {l : Launch} {G : GT} {d : Nat} {y : MT} {pc n : Nat} {vs : List (Option Value)} {st : List Value} {M : Mem} {R : Option Value → Mem → Prop} {k : Int} {v : Int32} (hd : De y pc (.sipush k) 3 n) (hv : (Int16.ofInt k).toInt32 = v) (kk : At l G d y n vs (.int v :: st) M R) : At l G d y pc vs st M R := by
  obtain ⟨hd, rfl⟩ := hd
  intro p e s m args below meth c hc H locs ls hP hS hl hn
  obtain ⟨hx, hb, hr, hml, hown, hts, hlocks, hK, hJ, hC⟩ := id hc
  exact lv_sipush hx hb hd hv (kk p e s m args below meth c hc H locs ls hP hS hl hn)
theorem a_lconst {l : Launch} {G : GT} {d : Nat} {y : MT} {pc n : Nat} {vs : List (Option Value)} {st : List Value} {M : Mem} {R : Option Value → Mem → Prop} {k : Fin 2} {v : Int64} (hd : De y pc (.lconst k) 1 n) (hv : Int64.ofNat (k : Nat) = v) (kk : At l G d y n vs (.long v :: st) M R) : At l G d y pc vs st M R := by
  obtain ⟨hd, rfl⟩ := hd
  intro p e s m args below meth c hc H locs ls hP hS hl hn
  obtain ⟨hx, hb, hr, hml, hown, hts, hlocks, hK, hJ, hC⟩ := id hc
  exact lv_lconst hx hb hd hv (kk p e s m args below meth c hc H locs ls hP hS hl hn)
theorem a_ldc {l : Launch} {G : GT} {d : Nat} {y : MT} {pc n : Nat} {vs : List (Option Value)} {st : List Value} {M : Mem} {R : Option Value → Mem → Prop} {k : Nat} {v : Int32} (hd : De y pc (.ldc k) 2 n) (hw : Cond.constant y.1.cls k v ∈ lw_tblg) (kk : At l G d y n vs (.int v :: st) M R) : At l G d y pc vs st M R := by
  obtain ⟨hd, rfl⟩ := hd
  intro p e s m args below meth c hc H locs ls hP hS hl hn
  obtain ⟨hx, hb, hr, hml, hown, hts, hlocks, hK, hJ, hC⟩ := id hc
  exact lv_ldc hx hb hown (hts _ (List.mem_cons_of_mem _ hw)) hd (kk p e s m args below meth c hc H locs ls hP hS hl hn)
theorem a_ldcw {l : Launch} {G : GT} {d : Nat} {y : MT} {pc n : Nat} {vs : List (Option Value)} {st : List Value} {M : Mem} {R : Option Value → Mem → Prop} {k : Nat} {v : Int32} (hd : De y pc (.ldc_w k) 3 n) (hw : Cond.constant y.1.cls k v ∈ lw_tblg) (kk : At l G d y n vs (.int v :: st) M R) : At l G d y pc vs st M R := by
  obtain ⟨hd, rfl⟩ := hd
  intro p e s m args below meth c hc H locs ls hP hS hl hn
  obtain ⟨hx, hb, hr, hml, hown, hts, hlocks, hK, hJ, hC⟩ := id hc
  exact lv_ldcw hx hb hown (hts _ (List.mem_cons_of_mem _ hw)) hd (kk p e s m args below meth c hc H locs ls hP hS hl hn)
theorem a_ldc2 {l : Launch} {G : GT} {d : Nat} {y : MT} {pc n : Nat} {vs : List (Option Value)} {st : List Value} {M : Mem} {R : Option Value → Mem → Prop} {k : Nat} {v : Int64} (hd : De y pc (.ldc2_w k) 3 n) (hw : Cond.constantLong y.1.cls k v ∈ lw_tblg) (kk : At l G d y n vs (.long v :: st) M R) : At l G d y pc vs st M R := by
  obtain ⟨hd, rfl⟩ := hd
  intro p e s m args below meth c hc H locs ls hP hS hl hn
  obtain ⟨hx, hb, hr, hml, hown, hts, hlocks, hK, hJ, hC⟩ := id hc
  exact lv_ldc2 hx hb hown (hts _ (List.mem_cons_of_mem _ hw)) hd (kk p e s m args below meth c hc H locs ls hP hS hl hn)
theorem a_iload_n {l : Launch} {G : GT} {d : Nat} {y : MT} {pc n : Nat} {vs : List (Option Value)} {st : List Value} {M : Mem} {R : Option Value → Mem → Prop} {k : Fin 4} {x : Int32} (hd : De y pc (.iload_n k) 1 n) (hv : vs[(k : Nat)]? = some (some (.int x))) (kk : At l G d y n vs (.int x :: st) M R) : At l G d y pc vs st M R := by
  obtain ⟨hd, rfl⟩ := hd
  intro p e s m args below meth c hc H locs ls hP hS hl hn
  obtain ⟨hx, hb, hr, hml, hown, hts, hlocks, hK, hJ, hC⟩ := id hc
  exact lv_iload_n hx hb hd rfl (hl.2.2 _ _ hv) (kk p e s m args below meth c hc H locs ls hP hS hl hn)
theorem a_iload {l : Launch} {G : GT} {d : Nat} {y : MT} {pc n : Nat} {vs : List (Option Value)} {st : List Value} {M : Mem} {R : Option Value → Mem → Prop} {k : Nat} {x : Int32} (hd : De y pc (.iload k) 2 n) (hv : vs[k]? = some (some (.int x))) (kk : At l G d y n vs (.int x :: st) M R) : At l G d y pc vs st M R := by
  obtain ⟨hd, rfl⟩ := hd
  intro p e s m args below meth c hc H locs ls hP hS hl hn
  obtain ⟨hx, hb, hr, hml, hown, hts, hlocks, hK, hJ, hC⟩ := id hc
  exact lv_iload hx hb hd (hl.2.2 _ _ hv) (kk p e s m args below meth c hc H locs ls hP hS hl hn)
theorem a_lload_n {l : Launch} {G : GT} {d : Nat} {y : MT} {pc n : Nat} {vs : List (Option Value)} {st : List Value} {M : Mem} {R : Option Value → Mem → Prop} {k : Fin 4} {x : Int64} (hd : De y pc (.lload_n k) 1 n) (hv : vs[(k : Nat)]? = some (some (.long x))) (kk : At l G d y n vs (.long x :: st) M R) : At l G d y pc vs st M R := by
  obtain ⟨hd, rfl⟩ := hd
  intro p e s m args below meth c hc H locs ls hP hS hl hn
  obtain ⟨hx, hb, hr, hml, hown, hts, hlocks, hK, hJ, hC⟩ := id hc
  exact lv_lload_n hx hb hd rfl (hl.2.2 _ _ hv) (kk p e s m args below meth c hc H locs ls hP hS hl hn)
theorem a_lload {l : Launch} {G : GT} {d : Nat} {y : MT} {pc n : Nat} {vs : List (Option Value)} {st : List Value} {M : Mem} {R : Option Value → Mem → Prop} {k : Nat} {x : Int64} (hd : De y pc (.lload k) 2 n) (hv : vs[k]? = some (some (.long x))) (kk : At l G d y n vs (.long x :: st) M R) : At l G d y pc vs st M R := by
  obtain ⟨hd, rfl⟩ := hd
  intro p e s m args below meth c hc H locs ls hP hS hl hn
  obtain ⟨hx, hb, hr, hml, hown, hts, hlocks, hK, hJ, hC⟩ := id hc
  exact lv_lload hx hb hd (hl.2.2 _ _ hv) (kk p e s m args below meth c hc H locs ls hP hS hl hn)
theorem a_aload_n {l : Launch} {G : GT} {d : Nat} {y : MT} {pc n : Nat} {vs : List (Option Value)} {st : List Value} {M : Mem} {R : Option Value → Mem → Prop} {k : Fin 4} {x : Nat} (hd : De y pc (.aload_n k) 1 n) (hv : vs[(k : Nat)]? = some (some (.ref x))) (kk : At l G d y n vs (.ref x :: st) M R) : At l G d y pc vs st M R := by
  obtain ⟨hd, rfl⟩ := hd
  intro p e s m args below meth c hc H locs ls hP hS hl hn
  obtain ⟨hx, hb, hr, hml, hown, hts, hlocks, hK, hJ, hC⟩ := id hc
  exact lv_aload_n hx hb hd rfl (hl.2.2 _ _ hv) (kk p e s m args below meth c hc H locs ls hP hS hl hn)
theorem a_aload {l : Launch} {G : GT} {d : Nat} {y : MT} {pc n : Nat} {vs : List (Option Value)} {st : List Value} {M : Mem} {R : Option Value → Mem → Prop} {k : Nat} {x : Nat} (hd : De y pc (.aload k) 2 n) (hv : vs[k]? = some (some (.ref x))) (kk : At l G d y n vs (.ref x :: st) M R) : At l G d y pc vs st M R := by
  obtain ⟨hd, rfl⟩ := hd
  intro p e s m args below meth c hc H locs ls hP hS hl hn
  obtain ⟨hx, hb, hr, hml, hown, hts, hlocks, hK, hJ, hC⟩ := id hc
  exact lv_aload hx hb hd (hl.2.2 _ _ hv) (kk p e s m args below meth c hc H locs ls hP hS hl hn)
theorem a_istore_n {l : Launch} {G : GT} {d : Nat} {y : MT} {pc n : Nat} {vs : List (Option Value)} {st : List Value} {M : Mem} {R : Option Value → Mem → Prop} {k : Fin 4} {x : Int32} {vs' : List (Option Value)} (hd : De y pc (.istore_n k) 1 n) (hi : vs.all (fun o => match o with | none => true | some w => w.category == 1) = true) (hlt : (k : Nat) < vs.length) (hv : vs.set (k : Nat) (some (.int x)) = vs') (kk : At l G d y n vs' st M R) : At l G d y pc vs (.int x :: st) M R := by
  obtain ⟨hd, rfl⟩ := hd
  intro p e s m args below meth c hc H locs ls hP hS hl hn
  obtain ⟨hx, hb, hr, hml, hown, hts, hlocks, hK, hJ, hC⟩ := id hc
  obtain ⟨ls', e', h'⟩ := hl.set (v := .int x) hlt rfl hi
  have kk := kk p e s m args below meth c hc H locs ls' hP hS (hv ▸ h') (by rw [← hv, List.length_set]; exact hn)
  intro T hT X
  obtain ⟨t, a, b⟩ := kk T hT X
  refine ⟨t, ?_, b⟩
  jvm_step X.here [X.here.top, ↓top_set X.here.top, hx, hb, hd, e']
  exact a
theorem a_istore {l : Launch} {G : GT} {d : Nat} {y : MT} {pc n : Nat} {vs : List (Option Value)} {st : List Value} {M : Mem} {R : Option Value → Mem → Prop} {k : Nat} {x : Int32} {vs' : List (Option Value)} (hd : De y pc (.istore k) 2 n) (hi : vs.all (fun o => match o with | none => true | some w => w.category == 1) = true) (hlt : k < vs.length) (hv : vs.set k (some (.int x)) = vs') (kk : At l G d y n vs' st M R) : At l G d y pc vs (.int x :: st) M R := by
  obtain ⟨hd, rfl⟩ := hd
  intro p e s m args below meth c hc H locs ls hP hS hl hn
  obtain ⟨hx, hb, hr, hml, hown, hts, hlocks, hK, hJ, hC⟩ := id hc
  obtain ⟨ls', e', h'⟩ := hl.set (v := .int x) hlt rfl hi
  have kk := kk p e s m args below meth c hc H locs ls' hP hS (hv ▸ h') (by rw [← hv, List.length_set]; exact hn)
  intro T hT X
  obtain ⟨t, a, b⟩ := kk T hT X
  refine ⟨t, ?_, b⟩
  jvm_step X.here [X.here.top, ↓top_set X.here.top, hx, hb, hd, e']
  exact a
theorem a_astore_n {l : Launch} {G : GT} {d : Nat} {y : MT} {pc n : Nat} {vs : List (Option Value)} {st : List Value} {M : Mem} {R : Option Value → Mem → Prop} {k : Fin 4} {x : Nat} {vs' : List (Option Value)} (hd : De y pc (.astore_n k) 1 n) (hi : vs.all (fun o => match o with | none => true | some w => w.category == 1) = true) (hlt : (k : Nat) < vs.length) (hv : vs.set (k : Nat) (some (.ref x)) = vs') (kk : At l G d y n vs' st M R) : At l G d y pc vs (.ref x :: st) M R := by
  obtain ⟨hd, rfl⟩ := hd
  intro p e s m args below meth c hc H locs ls hP hS hl hn
  obtain ⟨hx, hb, hr, hml, hown, hts, hlocks, hK, hJ, hC⟩ := id hc
  obtain ⟨ls', e', h'⟩ := hl.set (v := .ref x) hlt rfl hi
  have kk := kk p e s m args below meth c hc H locs ls' hP hS (hv ▸ h') (by rw [← hv, List.length_set]; exact hn)
  intro T hT X
  obtain ⟨t, a, b⟩ := kk T hT X
  refine ⟨t, ?_, b⟩
  jvm_step X.here [X.here.top, ↓top_set X.here.top, hx, hb, hd, e']
  exact ⟨rfl, a⟩
theorem a_astore {l : Launch} {G : GT} {d : Nat} {y : MT} {pc n : Nat} {vs : List (Option Value)} {st : List Value} {M : Mem} {R : Option Value → Mem → Prop} {k : Nat} {x : Nat} {vs' : List (Option Value)} (hd : De y pc (.astore k) 2 n) (hi : vs.all (fun o => match o with | none => true | some w => w.category == 1) = true) (hlt : k < vs.length) (hv : vs.set k (some (.ref x)) = vs') (kk : At l G d y n vs' st M R) : At l G d y pc vs (.ref x :: st) M R := by
  obtain ⟨hd, rfl⟩ := hd
  intro p e s m args below meth c hc H locs ls hP hS hl hn
  obtain ⟨hx, hb, hr, hml, hown, hts, hlocks, hK, hJ, hC⟩ := id hc
  obtain ⟨ls', e', h'⟩ := hl.set (v := .ref x) hlt rfl hi
  have kk := kk p e s m args below meth c hc H locs ls' hP hS (hv ▸ h') (by rw [← hv, List.length_set]; exact hn)
  intro T hT X
  obtain ⟨t, a, b⟩ := kk T hT X
  refine ⟨t, ?_, b⟩
  jvm_step X.here [X.here.top, ↓top_set X.here.top, hx, hb, hd, e']
  exact ⟨rfl, a⟩
theorem a_iinc {l : Launch} {G : GT} {d : Nat} {y : MT} {pc n : Nat} {vs : List (Option Value)} {st : List Value} {M : Mem} {R : Option Value → Mem → Prop} {k : Nat} {z : Int} {x v : Int32} {vs' : List (Option Value)} (hd : De y pc (.iinc k z) 3 n) (hi : vs.all (fun o => match o with | none => true | some w => w.category == 1) = true) (hx0 : vs[k]? = some (some (.int x))) (hz : Int32.ofInt z = v) (hv : vs.set k (some (.int (x + v))) = vs') (kk : At l G d y n vs' st M R) : At l G d y pc vs st M R := by
  subst hz
  obtain ⟨hd, rfl⟩ := hd
  intro p e s m args below meth c hc H locs ls hP hS hl hn
  obtain ⟨hx, hb, hr, hml, hown, hts, hlocks, hK, hJ, hC⟩ := id hc
  obtain ⟨ls', e', h'⟩ := hl.set (v := .int (x + Int32.ofInt z)) (List.getElem?_eq_some_iff.mp hx0).1 rfl hi
  have hg := hl.2.2 _ _ hx0
  have kk := kk p e s m args below meth c hc H locs ls' hP hS (hv ▸ h') (by rw [← hv, List.length_set]; exact hn)
  intro T hT X
  obtain ⟨t, a, b⟩ := kk T hT X
  refine ⟨t, ?_, b⟩
  jvm_step X.here [X.here.top, ↓top_set X.here.top, hx, hb, hd, hg, e']
  exact a
theorem a_iadd {l : Launch} {G : GT} {d : Nat} {y : MT} {pc n : Nat} {vs : List (Option Value)} {st : List Value} {M : Mem} {R : Option Value → Mem → Prop} {x z : Int32} (hd : De y pc .iadd 1 n) (kk : At l G d y n vs (.int (x + z) :: st) M R) : At l G d y pc vs (.int z :: .int x :: st) M R := by
  obtain ⟨hd, rfl⟩ := hd
  intro p e s m args below meth c hc H locs ls hP hS hl hn
  obtain ⟨hx, hb, hr, hml, hown, hts, hlocks, hK, hJ, hC⟩ := id hc
  exact lv_iadd hx hb hd (kk p e s m args below meth c hc H locs ls hP hS hl hn)
theorem a_isub {l : Launch} {G : GT} {d : Nat} {y : MT} {pc n : Nat} {vs : List (Option Value)} {st : List Value} {M : Mem} {R : Option Value → Mem → Prop} {x z : Int32} (hd : De y pc .isub 1 n) (kk : At l G d y n vs (.int (x - z) :: st) M R) : At l G d y pc vs (.int z :: .int x :: st) M R := by
  obtain ⟨hd, rfl⟩ := hd
  intro p e s m args below meth c hc H locs ls hP hS hl hn
  obtain ⟨hx, hb, hr, hml, hown, hts, hlocks, hK, hJ, hC⟩ := id hc
  exact lv_isub hx hb hd (kk p e s m args below meth c hc H locs ls hP hS hl hn)
theorem a_imul {l : Launch} {G : GT} {d : Nat} {y : MT} {pc n : Nat} {vs : List (Option Value)} {st : List Value} {M : Mem} {R : Option Value → Mem → Prop} {x z : Int32} (hd : De y pc .imul 1 n) (kk : At l G d y n vs (.int (x * z) :: st) M R) : At l G d y pc vs (.int z :: .int x :: st) M R := by
  obtain ⟨hd, rfl⟩ := hd
  intro p e s m args below meth c hc H locs ls hP hS hl hn
  obtain ⟨hx, hb, hr, hml, hown, hts, hlocks, hK, hJ, hC⟩ := id hc
  exact lv_imul hx hb hd (kk p e s m args below meth c hc H locs ls hP hS hl hn)
theorem a_iand {l : Launch} {G : GT} {d : Nat} {y : MT} {pc n : Nat} {vs : List (Option Value)} {st : List Value} {M : Mem} {R : Option Value → Mem → Prop} {x z : Int32} (hd : De y pc .iand 1 n) (kk : At l G d y n vs (.int (x &&& z) :: st) M R) : At l G d y pc vs (.int z :: .int x :: st) M R := by
  obtain ⟨hd, rfl⟩ := hd
  intro p e s m args below meth c hc H locs ls hP hS hl hn
  obtain ⟨hx, hb, hr, hml, hown, hts, hlocks, hK, hJ, hC⟩ := id hc
  exact lv_iand hx hb hd (kk p e s m args below meth c hc H locs ls hP hS hl hn)
theorem a_ior {l : Launch} {G : GT} {d : Nat} {y : MT} {pc n : Nat} {vs : List (Option Value)} {st : List Value} {M : Mem} {R : Option Value → Mem → Prop} {x z : Int32} (hd : De y pc .ior 1 n) (kk : At l G d y n vs (.int (x ||| z) :: st) M R) : At l G d y pc vs (.int z :: .int x :: st) M R := by
  obtain ⟨hd, rfl⟩ := hd
  intro p e s m args below meth c hc H locs ls hP hS hl hn
  obtain ⟨hx, hb, hr, hml, hown, hts, hlocks, hK, hJ, hC⟩ := id hc
  exact lv_ior hx hb hd (kk p e s m args below meth c hc H locs ls hP hS hl hn)
theorem a_ixor {l : Launch} {G : GT} {d : Nat} {y : MT} {pc n : Nat} {vs : List (Option Value)} {st : List Value} {M : Mem} {R : Option Value → Mem → Prop} {x z : Int32} (hd : De y pc .ixor 1 n) (kk : At l G d y n vs (.int (x ^^^ z) :: st) M R) : At l G d y pc vs (.int z :: .int x :: st) M R := by
  obtain ⟨hd, rfl⟩ := hd
  intro p e s m args below meth c hc H locs ls hP hS hl hn
  obtain ⟨hx, hb, hr, hml, hown, hts, hlocks, hK, hJ, hC⟩ := id hc
  exact lv_ixor hx hb hd (kk p e s m args below meth c hc H locs ls hP hS hl hn)
theorem a_ishl {l : Launch} {G : GT} {d : Nat} {y : MT} {pc n : Nat} {vs : List (Option Value)} {st : List Value} {M : Mem} {R : Option Value → Mem → Prop} {x z : Int32} (hd : De y pc .ishl 1 n) (kk : At l G d y n vs (.int (x <<< (z &&& 31)) :: st) M R) : At l G d y pc vs (.int z :: .int x :: st) M R := by
  obtain ⟨hd, rfl⟩ := hd
  intro p e s m args below meth c hc H locs ls hP hS hl hn
  obtain ⟨hx, hb, hr, hml, hown, hts, hlocks, hK, hJ, hC⟩ := id hc
  exact lv_ishl hx hb hd (kk p e s m args below meth c hc H locs ls hP hS hl hn)
theorem a_ishr {l : Launch} {G : GT} {d : Nat} {y : MT} {pc n : Nat} {vs : List (Option Value)} {st : List Value} {M : Mem} {R : Option Value → Mem → Prop} {x z : Int32} (hd : De y pc .ishr 1 n) (kk : At l G d y n vs (.int (x >>> (z &&& 31)) :: st) M R) : At l G d y pc vs (.int z :: .int x :: st) M R := by
  obtain ⟨hd, rfl⟩ := hd
  intro p e s m args below meth c hc H locs ls hP hS hl hn
  obtain ⟨hx, hb, hr, hml, hown, hts, hlocks, hK, hJ, hC⟩ := id hc
  exact lv_ishr hx hb hd (kk p e s m args below meth c hc H locs ls hP hS hl hn)
theorem a_iushr {l : Launch} {G : GT} {d : Nat} {y : MT} {pc n : Nat} {vs : List (Option Value)} {st : List Value} {M : Mem} {R : Option Value → Mem → Prop} {x z : Int32} (hd : De y pc .iushr 1 n) (kk : At l G d y n vs (.int (x.toUInt32 >>> (z.toUInt32 &&& Int32.toUInt32 31)).toInt32 :: st) M R) : At l G d y pc vs (.int z :: .int x :: st) M R := by
  obtain ⟨hd, rfl⟩ := hd
  intro p e s m args below meth c hc H locs ls hP hS hl hn
  obtain ⟨hx, hb, hr, hml, hown, hts, hlocks, hK, hJ, hC⟩ := id hc
  exact lv_iushr hx hb hd rfl (kk p e s m args below meth c hc H locs ls hP hS hl hn)
theorem a_idiv {l : Launch} {G : GT} {d : Nat} {y : MT} {pc n : Nat} {vs : List (Option Value)} {st : List Value} {M : Mem} {R : Option Value → Mem → Prop} {x z : Int32} (hd : De y pc .idiv 1 n) (hne : ¬ z = 0) (kk : At l G d y n vs (.int (x / z) :: st) M R) : At l G d y pc vs (.int z :: .int x :: st) M R := by
  obtain ⟨hd, rfl⟩ := hd
  intro p e s m args below meth c hc H locs ls hP hS hl hn
  obtain ⟨hx, hb, hr, hml, hown, hts, hlocks, hK, hJ, hC⟩ := id hc
  exact lv_idiv hx hb hd hne (kk p e s m args below meth c hc H locs ls hP hS hl hn)
theorem a_irem {l : Launch} {G : GT} {d : Nat} {y : MT} {pc n : Nat} {vs : List (Option Value)} {st : List Value} {M : Mem} {R : Option Value → Mem → Prop} {x z : Int32} (hd : De y pc .irem 1 n) (hne : ¬ z = 0) (kk : At l G d y n vs (.int (x - x / z * z) :: st) M R) : At l G d y pc vs (.int z :: .int x :: st) M R := by
  obtain ⟨hd, rfl⟩ := hd
  intro p e s m args below meth c hc H locs ls hP hS hl hn
  obtain ⟨hx, hb, hr, hml, hown, hts, hlocks, hK, hJ, hC⟩ := id hc
  exact lv_irem hx hb hd hne (kk p e s m args below meth c hc H locs ls hP hS hl hn)
theorem a_ineg {l : Launch} {G : GT} {d : Nat} {y : MT} {pc n : Nat} {vs : List (Option Value)} {st : List Value} {M : Mem} {R : Option Value → Mem → Prop} {x : Int32} (hd : De y pc .ineg 1 n) (kk : At l G d y n vs (.int (-x) :: st) M R) : At l G d y pc vs (.int x :: st) M R := by
  obtain ⟨hd, rfl⟩ := hd
  intro p e s m args below meth c hc H locs ls hP hS hl hn
  obtain ⟨hx, hb, hr, hml, hown, hts, hlocks, hK, hJ, hC⟩ := id hc
  exact lv_ineg hx hb hd (kk p e s m args below meth c hc H locs ls hP hS hl hn)
theorem a_ladd {l : Launch} {G : GT} {d : Nat} {y : MT} {pc n : Nat} {vs : List (Option Value)} {st : List Value} {M : Mem} {R : Option Value → Mem → Prop} {x z : Int64} (hd : De y pc .ladd 1 n) (kk : At l G d y n vs (.long (x + z) :: st) M R) : At l G d y pc vs (.long z :: .long x :: st) M R := by
  obtain ⟨hd, rfl⟩ := hd
  intro p e s m args below meth c hc H locs ls hP hS hl hn
  obtain ⟨hx, hb, hr, hml, hown, hts, hlocks, hK, hJ, hC⟩ := id hc
  exact lv_ladd hx hb hd (kk p e s m args below meth c hc H locs ls hP hS hl hn)
theorem a_lcmp {l : Launch} {G : GT} {d : Nat} {y : MT} {pc n : Nat} {vs : List (Option Value)} {st : List Value} {M : Mem} {R : Option Value → Mem → Prop} {x z : Int64} (hd : De y pc .lcmp 1 n) (kk : At l G d y n vs (.int (lg_cmp x z) :: st) M R) : At l G d y pc vs (.long z :: .long x :: st) M R := by
  obtain ⟨hd, rfl⟩ := hd
  intro p e s m args below meth c hc H locs ls hP hS hl hn
  obtain ⟨hx, hb, hr, hml, hown, hts, hlocks, hK, hJ, hC⟩ := id hc
  exact W.lcmp hx hb hd (kk p e s m args below meth c hc H locs ls hP hS hl hn)
theorem a_i2l {l : Launch} {G : GT} {d : Nat} {y : MT} {pc n : Nat} {vs : List (Option Value)} {st : List Value} {M : Mem} {R : Option Value → Mem → Prop} {x : Int32} (hd : De y pc .i2l 1 n) (kk : At l G d y n vs (.long x.toInt64 :: st) M R) : At l G d y pc vs (.int x :: st) M R := by
  obtain ⟨hd, rfl⟩ := hd
  intro p e s m args below meth c hc H locs ls hP hS hl hn
  obtain ⟨hx, hb, hr, hml, hown, hts, hlocks, hK, hJ, hC⟩ := id hc
  exact lv_i2l hx hb hd rfl (kk p e s m args below meth c hc H locs ls hP hS hl hn)
theorem a_i2s {l : Launch} {G : GT} {d : Nat} {y : MT} {pc n : Nat} {vs : List (Option Value)} {st : List Value} {M : Mem} {R : Option Value → Mem → Prop} {x : Int32} (hd : De y pc .i2s 1 n) (kk : At l G d y n vs (.int x.toInt16.toInt32 :: st) M R) : At l G d y pc vs (.int x :: st) M R := by
  obtain ⟨hd, rfl⟩ := hd
  intro p e s m args below meth c hc H locs ls hP hS hl hn
  obtain ⟨hx, hb, hr, hml, hown, hts, hlocks, hK, hJ, hC⟩ := id hc
  exact lv_i2s hx hb hd rfl (kk p e s m args below meth c hc H locs ls hP hS hl hn)
theorem a_i2c {l : Launch} {G : GT} {d : Nat} {y : MT} {pc n : Nat} {vs : List (Option Value)} {st : List Value} {M : Mem} {R : Option Value → Mem → Prop} {x : Int32} (hd : De y pc .i2c 1 n) (kk : At l G d y n vs (.int (x.toUInt32 % 65536).toInt32 :: st) M R) : At l G d y pc vs (.int x :: st) M R := by
  obtain ⟨hd, rfl⟩ := hd
  intro p e s m args below meth c hc H locs ls hP hS hl hn
  obtain ⟨hx, hb, hr, hml, hown, hts, hlocks, hK, hJ, hC⟩ := id hc
  exact lv_i2c hx hb hd rfl (kk p e s m args below meth c hc H locs ls hP hS hl hn)
theorem a_dup {l : Launch} {G : GT} {d : Nat} {y : MT} {pc n : Nat} {vs : List (Option Value)} {st : List Value} {M : Mem} {R : Option Value → Mem → Prop} {v : Value} (hd : De y pc .dup 1 n) (hv : v.category = 1) (kk : At l G d y n vs (v :: v :: st) M R) : At l G d y pc vs (v :: st) M R := by
  obtain ⟨hd, rfl⟩ := hd
  intro p e s m args below meth c hc H locs ls hP hS hl hn
  obtain ⟨hx, hb, hr, hml, hown, hts, hlocks, hK, hJ, hC⟩ := id hc
  exact lv_dup hx hb hd hv (kk p e s m args below meth c hc H locs ls hP hS hl hn)
theorem a_pop {l : Launch} {G : GT} {d : Nat} {y : MT} {pc n : Nat} {vs : List (Option Value)} {st : List Value} {M : Mem} {R : Option Value → Mem → Prop} {v : Value} (hd : De y pc .pop 1 n) (hv : v.category = 1) (kk : At l G d y n vs st M R) : At l G d y pc vs (v :: st) M R := by
  obtain ⟨hd, rfl⟩ := hd
  intro p e s m args below meth c hc H locs ls hP hS hl hn
  obtain ⟨hx, hb, hr, hml, hown, hts, hlocks, hK, hJ, hC⟩ := id hc
  exact lv_pop hx hb hd hv (kk p e s m args below meth c hc H locs ls hP hS hl hn)
theorem a_dup2 {l : Launch} {G : GT} {d : Nat} {y : MT} {pc n : Nat} {vs : List (Option Value)} {st : List Value} {M : Mem} {R : Option Value → Mem → Prop} {v w : Value} (hd : De y pc .dup2 1 n) (hv : v.category = 1) (hw : w.category = 1) (kk : At l G d y n vs (v :: w :: v :: w :: st) M R) : At l G d y pc vs (v :: w :: st) M R := by
  obtain ⟨hd, rfl⟩ := hd
  intro p e s m args below meth c hc H locs ls hP hS hl hn
  obtain ⟨hx, hb, hr, hml, hown, hts, hlocks, hK, hJ, hC⟩ := id hc
  exact lv_dup2_11 hx hb hd hv hw (kk p e s m args below meth c hc H locs ls hP hS hl hn)
theorem a_if_eq {l : Launch} {G : GT} {d : Nat} {y : MT} {pc n : Nat} {vs : List (Option Value)} {st : List Value} {M : Mem} {R : Option Value → Mem → Prop} {x : Int32} {off : Int} {tgt : Nat} (hd : De y pc (.ifCond .eq off) 3 n) (ht : (pc : Int) + off = (tgt : Int)) (kt : x = 0 → At l G d y tgt vs st M R) (kf : ¬ (x = 0) → At l G d y n vs st M R) : At l G d y pc vs (.int x :: st) M R := by
  obtain ⟨hd, rfl⟩ := hd
  intro p e s m args below meth c hc H locs ls hP hS hl hn
  obtain ⟨hx, hb, hr, hml, hown, hts, hlocks, hK, hJ, hC⟩ := id hc
  exact lv_if_eq hx hb hd ht (fun h => kt h p e s m args below meth c hc H locs ls hP hS hl hn) (fun h => kf h p e s m args below meth c hc H locs ls hP hS hl hn)
theorem a_icmp_eq {l : Launch} {G : GT} {d : Nat} {y : MT} {pc n : Nat} {vs : List (Option Value)} {st : List Value} {M : Mem} {R : Option Value → Mem → Prop} {x z : Int32} {off : Int} {tgt : Nat} (hd : De y pc (.if_icmp .eq off) 3 n) (ht : (pc : Int) + off = (tgt : Int)) (kt : x = z → At l G d y tgt vs st M R) (kf : ¬ (x = z) → At l G d y n vs st M R) : At l G d y pc vs (.int z :: .int x :: st) M R := by
  obtain ⟨hd, rfl⟩ := hd
  intro p e s m args below meth c hc H locs ls hP hS hl hn
  obtain ⟨hx, hb, hr, hml, hown, hts, hlocks, hK, hJ, hC⟩ := id hc
  exact lv_icmp_eq hx hb hd ht (fun h => kt h p e s m args below meth c hc H locs ls hP hS hl hn) (fun h => kf h p e s m args below meth c hc H locs ls hP hS hl hn)
theorem a_if_ne {l : Launch} {G : GT} {d : Nat} {y : MT} {pc n : Nat} {vs : List (Option Value)} {st : List Value} {M : Mem} {R : Option Value → Mem → Prop} {x : Int32} {off : Int} {tgt : Nat} (hd : De y pc (.ifCond .ne off) 3 n) (ht : (pc : Int) + off = (tgt : Int)) (kt : ¬ x = 0 → At l G d y tgt vs st M R) (kf : x = 0 → At l G d y n vs st M R) : At l G d y pc vs (.int x :: st) M R := by
  obtain ⟨hd, rfl⟩ := hd
  intro p e s m args below meth c hc H locs ls hP hS hl hn
  obtain ⟨hx, hb, hr, hml, hown, hts, hlocks, hK, hJ, hC⟩ := id hc
  exact lv_if_ne hx hb hd ht (fun h => kt h p e s m args below meth c hc H locs ls hP hS hl hn) (fun h => kf h p e s m args below meth c hc H locs ls hP hS hl hn)
theorem a_icmp_ne {l : Launch} {G : GT} {d : Nat} {y : MT} {pc n : Nat} {vs : List (Option Value)} {st : List Value} {M : Mem} {R : Option Value → Mem → Prop} {x z : Int32} {off : Int} {tgt : Nat} (hd : De y pc (.if_icmp .ne off) 3 n) (ht : (pc : Int) + off = (tgt : Int)) (kt : ¬ x = z → At l G d y tgt vs st M R) (kf : x = z → At l G d y n vs st M R) : At l G d y pc vs (.int z :: .int x :: st) M R := by
  obtain ⟨hd, rfl⟩ := hd
  intro p e s m args below meth c hc H locs ls hP hS hl hn
  obtain ⟨hx, hb, hr, hml, hown, hts, hlocks, hK, hJ, hC⟩ := id hc
  exact lv_icmp_ne hx hb hd ht (fun h => kt h p e s m args below meth c hc H locs ls hP hS hl hn) (fun h => kf h p e s m args below meth c hc H locs ls hP hS hl hn)
theorem a_if_lt {l : Launch} {G : GT} {d : Nat} {y : MT} {pc n : Nat} {vs : List (Option Value)} {st : List Value} {M : Mem} {R : Option Value → Mem → Prop} {x : Int32} {off : Int} {tgt : Nat} (hd : De y pc (.ifCond .lt off) 3 n) (ht : (pc : Int) + off = (tgt : Int)) (kt : x < 0 → At l G d y tgt vs st M R) (kf : ¬ (x < 0) → At l G d y n vs st M R) : At l G d y pc vs (.int x :: st) M R := by
  obtain ⟨hd, rfl⟩ := hd
  intro p e s m args below meth c hc H locs ls hP hS hl hn
  obtain ⟨hx, hb, hr, hml, hown, hts, hlocks, hK, hJ, hC⟩ := id hc
  exact lv_if_lt hx hb hd ht (fun h => kt h p e s m args below meth c hc H locs ls hP hS hl hn) (fun h => kf h p e s m args below meth c hc H locs ls hP hS hl hn)
theorem a_icmp_lt {l : Launch} {G : GT} {d : Nat} {y : MT} {pc n : Nat} {vs : List (Option Value)} {st : List Value} {M : Mem} {R : Option Value → Mem → Prop} {x z : Int32} {off : Int} {tgt : Nat} (hd : De y pc (.if_icmp .lt off) 3 n) (ht : (pc : Int) + off = (tgt : Int)) (kt : x < z → At l G d y tgt vs st M R) (kf : ¬ (x < z) → At l G d y n vs st M R) : At l G d y pc vs (.int z :: .int x :: st) M R := by
  obtain ⟨hd, rfl⟩ := hd
  intro p e s m args below meth c hc H locs ls hP hS hl hn
  obtain ⟨hx, hb, hr, hml, hown, hts, hlocks, hK, hJ, hC⟩ := id hc
  exact lv_icmp_lt hx hb hd ht (fun h => kt h p e s m args below meth c hc H locs ls hP hS hl hn) (fun h => kf h p e s m args below meth c hc H locs ls hP hS hl hn)
theorem a_if_ge {l : Launch} {G : GT} {d : Nat} {y : MT} {pc n : Nat} {vs : List (Option Value)} {st : List Value} {M : Mem} {R : Option Value → Mem → Prop} {x : Int32} {off : Int} {tgt : Nat} (hd : De y pc (.ifCond .ge off) 3 n) (ht : (pc : Int) + off = (tgt : Int)) (kt : 0 ≤ x → At l G d y tgt vs st M R) (kf : ¬ (0 ≤ x) → At l G d y n vs st M R) : At l G d y pc vs (.int x :: st) M R := by
  obtain ⟨hd, rfl⟩ := hd
  intro p e s m args below meth c hc H locs ls hP hS hl hn
  obtain ⟨hx, hb, hr, hml, hown, hts, hlocks, hK, hJ, hC⟩ := id hc
  exact lv_if_ge hx hb hd ht (fun h => kt h p e s m args below meth c hc H locs ls hP hS hl hn) (fun h => kf h p e s m args below meth c hc H locs ls hP hS hl hn)
theorem a_icmp_ge {l : Launch} {G : GT} {d : Nat} {y : MT} {pc n : Nat} {vs : List (Option Value)} {st : List Value} {M : Mem} {R : Option Value → Mem → Prop} {x z : Int32} {off : Int} {tgt : Nat} (hd : De y pc (.if_icmp .ge off) 3 n) (ht : (pc : Int) + off = (tgt : Int)) (kt : z ≤ x → At l G d y tgt vs st M R) (kf : ¬ (z ≤ x) → At l G d y n vs st M R) : At l G d y pc vs (.int z :: .int x :: st) M R := by
  obtain ⟨hd, rfl⟩ := hd
  intro p e s m args below meth c hc H locs ls hP hS hl hn
  obtain ⟨hx, hb, hr, hml, hown, hts, hlocks, hK, hJ, hC⟩ := id hc
  exact lv_icmp_ge hx hb hd ht (fun h => kt h p e s m args below meth c hc H locs ls hP hS hl hn) (fun h => kf h p e s m args below meth c hc H locs ls hP hS hl hn)
theorem a_if_gt {l : Launch} {G : GT} {d : Nat} {y : MT} {pc n : Nat} {vs : List (Option Value)} {st : List Value} {M : Mem} {R : Option Value → Mem → Prop} {x : Int32} {off : Int} {tgt : Nat} (hd : De y pc (.ifCond .gt off) 3 n) (ht : (pc : Int) + off = (tgt : Int)) (kt : 0 < x → At l G d y tgt vs st M R) (kf : ¬ (0 < x) → At l G d y n vs st M R) : At l G d y pc vs (.int x :: st) M R := by
  obtain ⟨hd, rfl⟩ := hd
  intro p e s m args below meth c hc H locs ls hP hS hl hn
  obtain ⟨hx, hb, hr, hml, hown, hts, hlocks, hK, hJ, hC⟩ := id hc
  exact lv_if_gt hx hb hd ht (fun h => kt h p e s m args below meth c hc H locs ls hP hS hl hn) (fun h => kf h p e s m args below meth c hc H locs ls hP hS hl hn)
theorem a_icmp_gt {l : Launch} {G : GT} {d : Nat} {y : MT} {pc n : Nat} {vs : List (Option Value)} {st : List Value} {M : Mem} {R : Option Value → Mem → Prop} {x z : Int32} {off : Int} {tgt : Nat} (hd : De y pc (.if_icmp .gt off) 3 n) (ht : (pc : Int) + off = (tgt : Int)) (kt : z < x → At l G d y tgt vs st M R) (kf : ¬ (z < x) → At l G d y n vs st M R) : At l G d y pc vs (.int z :: .int x :: st) M R := by
  obtain ⟨hd, rfl⟩ := hd
  intro p e s m args below meth c hc H locs ls hP hS hl hn
  obtain ⟨hx, hb, hr, hml, hown, hts, hlocks, hK, hJ, hC⟩ := id hc
  exact lv_icmp_gt hx hb hd ht (fun h => kt h p e s m args below meth c hc H locs ls hP hS hl hn) (fun h => kf h p e s m args below meth c hc H locs ls hP hS hl hn)
theorem a_if_le {l : Launch} {G : GT} {d : Nat} {y : MT} {pc n : Nat} {vs : List (Option Value)} {st : List Value} {M : Mem} {R : Option Value → Mem → Prop} {x : Int32} {off : Int} {tgt : Nat} (hd : De y pc (.ifCond .le off) 3 n) (ht : (pc : Int) + off = (tgt : Int)) (kt : x ≤ 0 → At l G d y tgt vs st M R) (kf : ¬ (x ≤ 0) → At l G d y n vs st M R) : At l G d y pc vs (.int x :: st) M R := by
  obtain ⟨hd, rfl⟩ := hd
  intro p e s m args below meth c hc H locs ls hP hS hl hn
  obtain ⟨hx, hb, hr, hml, hown, hts, hlocks, hK, hJ, hC⟩ := id hc
  exact lv_if_le hx hb hd ht (fun h => kt h p e s m args below meth c hc H locs ls hP hS hl hn) (fun h => kf h p e s m args below meth c hc H locs ls hP hS hl hn)
theorem a_icmp_le {l : Launch} {G : GT} {d : Nat} {y : MT} {pc n : Nat} {vs : List (Option Value)} {st : List Value} {M : Mem} {R : Option Value → Mem → Prop} {x z : Int32} {off : Int} {tgt : Nat} (hd : De y pc (.if_icmp .le off) 3 n) (ht : (pc : Int) + off = (tgt : Int)) (kt : x ≤ z → At l G d y tgt vs st M R) (kf : ¬ (x ≤ z) → At l G d y n vs st M R) : At l G d y pc vs (.int z :: .int x :: st) M R := by
  obtain ⟨hd, rfl⟩ := hd
  intro p e s m args below meth c hc H locs ls hP hS hl hn
  obtain ⟨hx, hb, hr, hml, hown, hts, hlocks, hK, hJ, hC⟩ := id hc
  exact lv_icmp_le hx hb hd ht (fun h => kt h p e s m args below meth c hc H locs ls hP hS hl hn) (fun h => kf h p e s m args below meth c hc H locs ls hP hS hl hn)
theorem a_goto {l : Launch} {G : GT} {d : Nat} {y : MT} {pc n : Nat} {vs : List (Option Value)} {st : List Value} {M : Mem} {R : Option Value → Mem → Prop} {off : Int} {tgt : Nat} (hd : De y pc (.goto off) 3 n) (ht : (pc : Int) + off = (tgt : Int)) (kk : At l G d y tgt vs st M R) : At l G d y pc vs st M R := by
  obtain ⟨hd, rfl⟩ := hd
  intro p e s m args below meth c hc H locs ls hP hS hl hn
  obtain ⟨hx, hb, hr, hml, hown, hts, hlocks, hK, hJ, hC⟩ := id hc
  exact lv_goto hx hb hd ht (kk p e s m args below meth c hc H locs ls hP hS hl hn)
theorem a_tswIn {l : Launch} {G : GT} {d : Nat} {y : MT} {pc n : Nat} {vs : List (Option Value)} {st : List Value} {M : Mem} {R : Option Value → Mem → Prop} {dflt lo hi : Int} {offs : Array Int} {len : Nat} {x : Int32} (v : Int32) {off : Int} {tgt : Nat} (hd : De y pc (.tableswitch dflt lo hi offs) len n) (hv : x = v) (h1 : ¬ v.toInt < lo) (h2 : ¬ hi < v.toInt) (ho : offs[(v.toInt - lo).toNat]? = some off) (ht : (pc : Int) + off = (tgt : Int)) (kk : At l G d y tgt vs st M R) : At l G d y pc vs (.int x :: st) M R := by
  subst hv
  obtain ⟨hd, rfl⟩ := hd
  intro p e s m args below meth c hc H locs ls hP hS hl hn
  obtain ⟨hx, hb, hr, hml, hown, hts, hlocks, hK, hJ, hC⟩ := id hc
  exact lv_tableIn hx hb hd h1 h2 ho ht (kk p e s m args below meth c hc H locs ls hP hS hl hn)
theorem a_tswOut {l : Launch} {G : GT} {d : Nat} {y : MT} {pc n : Nat} {vs : List (Option Value)} {st : List Value} {M : Mem} {R : Option Value → Mem → Prop} {dflt lo hi : Int} {offs : Array Int} {len : Nat} {x : Int32} {tgt : Nat} (hd : De y pc (.tableswitch dflt lo hi offs) len n) (h : x.toInt < lo ∨ hi < x.toInt) (ht : (pc : Int) + dflt = (tgt : Int)) (kk : At l G d y tgt vs st M R) : At l G d y pc vs (.int x :: st) M R := by
  obtain ⟨hd, rfl⟩ := hd
  intro p e s m args below meth c hc H locs ls hP hS hl hn
  obtain ⟨hx, hb, hr, hml, hown, hts, hlocks, hK, hJ, hC⟩ := id hc
  exact lv_tableOut hx hb hd h ht (kk p e s m args below meth c hc H locs ls hP hS hl hn)
theorem a_lsw {l : Launch} {G : GT} {d : Nat} {y : MT} {pc n : Nat} {vs : List (Option Value)} {st : List Value} {M : Mem} {R : Option Value → Mem → Prop} {dflt : Int} {ps : Array (Int × Int)} {len : Nat} {x : Int32} {off : Int} {tgt : Nat} (hd : De y pc (.lookupswitch dflt ps) len n) (hp : (ps.toList.zip (ps.toList.drop 1)).all (fun (a, next) => a.1 < next.1) = true) (ho : Op.lookupswitch.offset ps.toList dflt x.toInt = off) (ht : (pc : Int) + off = (tgt : Int)) (kk : At l G d y tgt vs st M R) : At l G d y pc vs (.int x :: st) M R := by
  obtain ⟨hd, rfl⟩ := hd
  intro p e s m args below meth c hc H locs ls hP hS hl hn
  obtain ⟨hx, hb, hr, hml, hown, hts, hlocks, hK, hJ, hC⟩ := id hc
  exact lv_lookup hx hb hd hp ho ht (kk p e s m args below meth c hc H locs ls hP hS hl hn)
theorem a_iret {l : Launch} {G : GT} {d : Nat} {y : MT} {pc n : Nat} {vs : List (Option Value)} {M : Mem} {R : Option Value → Mem → Prop} {x : Int32} {ty : FieldType} (hd : De y pc .ireturn 1 n) (hty : y.2.2.2 = some ty) (hnar : narrow ty (.int x) = .int x) (hR : R (some (.int x)) M) : At l G d y pc vs [.int x] M R := by
  obtain ⟨hd, rfl⟩ := hd
  intro p e s m args below meth c hc H locs ls hP hS hl hn
  obtain ⟨hx, hb, hr, hml, hown, hts, hlocks, hK, hJ, hC⟩ := id hc
  exact W.zret (v := x) hx hb (hr.trans hty) hnar (fun t ht hW => ⟨⟨_, M, rfl, hR, by rw [ht]; exact hP, va_K.moved hW.alike hK, hJ, by rw [ht]; exact hC.warm hW hS.2.1⟩, hS.F ht⟩) hS.2.2 hd
theorem a_vret {l : Launch} {G : GT} {d : Nat} {y : MT} {pc n : Nat} {vs : List (Option Value)} {M : Mem} {R : Option Value → Mem → Prop} (hd : De y pc .return_ 1 n) (hty : y.2.2.2 = none) (hR : R none M) : At l G d y pc vs [] M R := by
  obtain ⟨hd, rfl⟩ := hd
  intro p e s m args below meth c hc H locs ls hP hS hl hn
  obtain ⟨hx, hb, hr, hml, hown, hts, hlocks, hK, hJ, hC⟩ := id hc
  exact W.vret hx hb (hr.trans hty) (fun t ht hW => ⟨⟨_, M, rfl, hR, by rw [ht]; exact hP, va_K.moved hW.alike hK, hJ, by rw [ht]; exact hC.warm hW hS.2.1⟩, hS.F ht⟩) hS.2.2 hd
theorem a_get {l : Launch} {G : GT} {d : Nat} {y : MT} {pc n : Nat} {vs : List (Option Value)} {st : List Value} {M : Mem} {R : Option Value → Mem → Prop} {idx k ci i : Nat} {fl : List (Option Nat)} {Cn : String} {T : u_T} {N : Nat} {o : Option Nat} (hd : De y pc (.getfield idx) 3 n) (hsh : shp k = (0, ci, fl)) (hk : inK k = true) (hc2 : clz[ci]? = some (Cn, T, N)) (hi : i < N) (hin : ∀ w ∈ u_ws Cn T N, w ∈ lw_tblg) (hw : Cond.fieldLink y.1.cls idx (T i).1 (T i).2.1 (T i).2.2.1 ∈ lw_tblg) (ho : fl[i]? = some o) (kk : At l G d y n vs (fvl G.1 (M k) i o :: st) M R) : At l G d y pc vs (.ref (G.1 k) :: st) M R := by
  obtain ⟨hd, rfl⟩ := hd
  intro p e s m args below meth c hc H locs ls hP hS hl hn
  obtain ⟨hx, hb, hr, hml, hown, hts, hlocks, hK, hJ, hC⟩ := id hc
  obtain ⟨q, hq, -⟩ := wl_at G M hk
  rw [cel_o G M hsh] at hq
  have hf := flds_at G.1 (M k) fl 0 i o ho
  rw [Nat.zero_add] at hf
  exact va_get (D := G.2.1) (C := Cn) (T := T) (N := N) hx hb hts (fun w h => List.mem_cons_of_mem _ (hin w h)) hown hK hP q hq hc2 i hi (hts _ (List.mem_cons_of_mem _ hw)) (fun _ h9 => h9) hf hd (kk p e s m args below meth c hc H locs ls hP hS hl hn)
theorem a_put {l : Launch} {G : GT} {d : Nat} {y : MT} {pc n : Nat} {vs : List (Option Value)} {st : List Value} {M : Mem} {R : Option Value → Mem → Prop} {idx k ci i : Nat} {fl : List (Option Nat)} {Cn : String} {T : u_T} {N : Nat} {x : Int32} (hd : De y pc (.putfield idx) 3 n) (hsh : shp k = (0, ci, fl)) (hk : inK k = true) (hc2 : clz[ci]? = some (Cn, T, N)) (hi : i < N) (hin : ∀ w ∈ u_ws Cn T N, w ∈ lw_tblg) (ty0 : Nat → FieldType) (hty : ∀ k, k < N → parseFieldDescriptor (T k).2.2.1 = some (ty0 k)) (hnm : ∀ a, a < N → ∀ b, b < N → a ≠ b → (T a).2.1 ≠ (T b).2.1) (hw : Cond.fieldLink y.1.cls idx (T i).1 (T i).2.1 (T i).2.2.1 ∈ lw_tblg) (ho : fl[i]? = some none) (hfin : (T i).2.2.2 = false) {ty : FieldType} (hpd : parseFieldDescriptor (T i).2.2.1 = some ty) (hnar : narrow ty (.int x) = .int x) (hfit : fits ty (.int x) = true) (kk : At l G d y n vs st (um M k i x) R) : At l G d y pc vs (.int x :: .ref (G.1 k) :: st) M R := by
  obtain ⟨hd, rfl⟩ := hd
  intro p e s m args below meth c hc H locs ls hP hS hl hn
  obtain ⟨hx, hb, hr, hml, hown, hts, hlocks, hK, hJ, hC⟩ := id hc
  obtain ⟨q, hq, hset⟩ := wl_at G M hk
  have hset := hset (upd (M k) i x)
  rw [cel_o G M hsh] at hq
  rw [cel_o G _ hsh, ua_s] at hset
  have hfs := flds_set G.1 (M k) x fl 0 i ho
  rw [Nat.zero_add] at hfs
  have hlen : i < (flds G.1 (M k) 0 fl).length := by rw [flds_len]; exact (List.getElem?_eq_some_iff.mp ho).1
  exact va_put (D := G.2.1) (C := Cn) (T := T) (N := N) hx hb hts (fun w h => List.mem_cons_of_mem _ (hin w h)) ty0 hty hnm hown hK hP (wl_D hJ M) hS q hq hc2 i hi (hts _ (List.mem_cons_of_mem _ hw)) (fun _ h9 => h9) hfin hpd hnar hfit hlen hd (fun H1 locs1 hP1 _ hS1 => kk p e s m args below meth c hc H1 locs1 ls (by rw [hfs, hset] at hP1; exact hP1) hS1 hl hn)
theorem a_iald {l : Launch} {G : GT} {d : Nat} {y : MT} {pc n : Nat} {vs : List (Option Value)} {st : List Value} {M : Mem} {R : Option Value → Mem → Prop} {k len : Nat} {i : Int32} (hd : De y pc .iaload 1 n) (hsh : shp k = (1, len, [])) (hk : inK k = true) (hi : vp_in i len) (kk : At l G d y n vs (.int (M k (ix i)) :: st) M R) : At l G d y pc vs (.int i :: .ref (G.1 k) :: st) M R := by
  obtain ⟨hd, rfl⟩ := hd
  intro p e s m args below meth c hc H locs ls hP hS hl hn
  obtain ⟨hx, hb, hr, hml, hown, hts, hlocks, hK, hJ, hC⟩ := id hc
  obtain ⟨q, hq, -⟩ := wl_at G M hk
  rw [cel_i G M hsh] at hq
  exact va_iald hx hb hK hP q 0 hq rfl hi hd (kk p e s m args below meth c hc H locs ls hP hS hl hn)
theorem a_alen {l : Launch} {G : GT} {d : Nat} {y : MT} {pc n : Nat} {vs : List (Option Value)} {st : List Value} {M : Mem} {R : Option Value → Mem → Prop} {k len : Nat} {v : Int32} (hd : De y pc .arraylength 1 n) (hsh : shp k = (1, len, [])) (hk : inK k = true) (hv : Int32.ofNat len = v) (kk : At l G d y n vs (.int v :: st) M R) : At l G d y pc vs (.ref (G.1 k) :: st) M R := by
  obtain ⟨hd, rfl⟩ := hd
  intro p e s m args below meth c hc H locs ls hP hS hl hn
  obtain ⟨hx, hb, hr, hml, hown, hts, hlocks, hK, hJ, hC⟩ := id hc
  obtain ⟨q, hq, -⟩ := wl_at G M hk
  rw [cel_i G M hsh] at hq
  exact va_alen hx hb hK hP q 0 hq rfl hv hd (kk p e s m args below meth c hc H locs ls hP hS hl hn)
theorem a_iast {l : Launch} {G : GT} {d : Nat} {y : MT} {pc n : Nat} {vs : List (Option Value)} {st : List Value} {M : Mem} {R : Option Value → Mem → Prop} {k len : Nat} {i x : Int32} (hd : De y pc .iastore 1 n) (hsh : shp k = (1, len, [])) (hk : inK k = true) (hi : vp_in i len) (kk : At l G d y n vs st (um M k (ix i) x) R) : At l G d y pc vs (.int x :: .int i :: .ref (G.1 k) :: st) M R := by
  obtain ⟨hd, rfl⟩ := hd
  intro p e s m args below meth c hc H locs ls hP hS hl hn
  obtain ⟨hx, hb, hr, hml, hown, hts, hlocks, hK, hJ, hC⟩ := id hc
  obtain ⟨q, hq, hset⟩ := wl_at G M hk
  have hset := hset (upd (M k) i.toNatClampNeg x)
  rw [cel_i G M hsh] at hq
  rw [cel_i G _ hsh, ua_s] at hset
  exact va_iast hx hb hK hP (wl_D hJ M) hS q 0 hq rfl hi hd (fun H1 locs1 hP1 _ hS1 => kk p e s m args below meth c hc H1 locs1 ls (by rw [hset] at hP1; exact hP1) hS1 hl hn)
theorem a_aald {l : Launch} {G : GT} {d : Nat} {y : MT} {pc n : Nat} {vs : List (Option Value)} {st : List Value} {M : Mem} {R : Option Value → Mem → Prop} {k t len : Nat} {fl : List (Option Nat)} {i : Int32} {ty : FieldType} {b : Nat} (hd : De y pc .aaload 1 n) (hsh : shp k = (t + 2, len, fl)) (hk : inK k = true) (ht : (tyz G)[t]? = some (G.2.2.1 t, ty)) (hty : ty.isReference = true) (hi : vp_in i len) (hb2 : fl.getD i.toNatClampNeg none = some b) (kk : At l G d y n vs (.ref (G.1 b) :: st) M R) : At l G d y pc vs (.int i :: .ref (G.1 k) :: st) M R := by
  obtain ⟨hd, rfl⟩ := hd
  intro p e s m args below meth c hc H locs ls hP hS hl hn
  obtain ⟨hx, hb, hr, hml, hown, hts, hlocks, hK, hJ, hC⟩ := id hc
  obtain ⟨q, hq, -⟩ := wl_at G M hk
  rw [cel_q G M hsh] at hq
  have hlt : i.toNatClampNeg < len := Nat.not_le.mp fun q => hi (Or.inr q)
  exact W.aald (v := .ref (G.1 b)) (ty := ty) hx hb (hP q _ hq) ((hK.2 t _ ht).1 len (fun j => va_rf ((fl.getD j none).map G.1))) hty (fun q => by cases q) (by show ¬ (i < 0 ∨ (arrV _ _ _).slots.size ≤ _); rw [arrV_size]; exact hi) (by show (arrV _ _ _).slots[_]? = _; rw [arrV_read _ _ hlt]; show some (va_rf ((fl.getD i.toNatClampNeg none).map G.1)) = _; rw [hb2]; rfl) rfl rfl hd (kk p e s m args below meth c hc H locs ls hP hS hl hn)
theorem a_copy {l : Launch} {G : GT} {d : Nat} {y : MT} {pc n : Nat} {vs : List (Option Value)} {st : List Value} {M : Mem} {R : Option Value → Mem → Prop} {idx k0 k1 n0 n1 : Nat} {sp dp nn : Int32} (hd : De y pc (.invokestatic idx) 3 n) (hw : Cond.methodLink y.1.cls idx arraycopyName ∈ lw_tblg) (hnat : Cond.native arraycopyName ∈ lw_tblg) (hstat : Cond.static arraycopyName ∈ lw_tblg) (hini : Cond.initialized "java/lang/System" ∈ lw_tblg) (hs0 : shp k0 = (1, n0, [])) (hk0 : inK k0 = true) (hs1 : shp k1 = (1, n1, [])) (hk1 : inK k1 = true) (h1 : ¬ sp < 0) (h2 : ¬ dp < 0) (h3 : ¬ nn < 0) (h4 : ix sp + ix nn ≤ n0) (h5 : ix dp + ix nn ≤ n1) (hdep : 1 ≤ d) (hst : (st.map fun v => v.category).sum + (nativeFrameWords "java/lang/System" "arraycopy" 5 + 11) ≤ 40)
    (kk : At l G d y n vs st (ua M k1 (va_cpy (M k0) (M k1) (ix sp) (ix dp) (ix nn))) R) : At l G d y pc vs (.int nn :: .int dp :: .ref (G.1 k1) :: .int sp :: .ref (G.1 k0) :: st) M R := by
  obtain ⟨hd, rfl⟩ := hd
  intro p e s m args below meth c hc H locs ls hP hS hl hn
  obtain ⟨hx, hb, hr, hml, hown, hts, hlocks, hK, hJ, hC⟩ := id hc
  obtain ⟨q0, hq0, -⟩ := wl_at G M hk0
  obtain ⟨q1, hq1, hset⟩ := wl_at G M hk1
  have hset := hset (va_cpy (M k0) (M k1) sp.toNatClampNeg dp.toNatClampNeg nn.toNatClampNeg)
  rw [cel_i G M hs0] at hq0
  rw [cel_i G M hs1] at hq1
  rw [cel_i G _ hs1, ua_s] at hset
  have hmem : ∀ w, w ∈ lw_tblg → w.before args s = true := fun w h => hts _ (List.mem_cons_of_mem _ h)
  exact va_copyi hx hb (hml.trans (hn.symm.trans hl.1.symm)) hown (hmem _ hw) (hmem _ hnat) (hmem _ hstat) (hmem _ hini) hK hP (wl_D hJ M) hS q0 q1 0 0 hq0 hq1 rfl rfl rfl h1 h2 h3 h4 h5 (fun i _ => rfl) (by show 1 ≤ d; exact hdep) (by show _ ≤ 40 * d; omega) hd (fun H1 locs1 hP1 _ hS1 => kk p e s m args below meth c hc H1 locs1 ls (by rw [hset] at hP1; exact hP1) hS1 hl hn)
theorem a_mmax {l : Launch} {G : GT} {d : Nat} {y : MT} {pc n : Nat} {vs : List (Option Value)} {st : List Value} {M : Mem} {R : Option Value → Mem → Prop} {idx : Nat} {x z : Int32} (hd : De y pc (.invokestatic idx) 3 n) (hw : Cond.methodLink y.1.cls idx Lib.Math.max.name ∈ lw_tblg) (hstat : Cond.static Lib.Math.max.name ∈ lw_tblg) (hini : Cond.initialized "java/lang/Math" ∈ lw_tblg) (hcode : Cond.code Lib.Math.max.name Lib.Math.max.code 2 (some .int) ∈ lw_tblg) (hdep : 1 ≤ d) (hst : (st.map fun v => v.category).sum ≤ 8) (kk : At l G d y n vs (.int (if x < z then z else x) :: st) M R) : At l G d y pc vs (.int z :: .int x :: st) M R := by
  obtain ⟨hd, rfl⟩ := hd
  intro p e s m args below meth c hc H locs ls hP hS hl hn
  obtain ⟨hx, hb, hr, hml, hown, hts, hlocks, hK, hJ, hC⟩ := id hc
  have hmem : ∀ w, w ∈ lw_tblg → w.before args s = true := fun w h => hts _ (List.mem_cons_of_mem _ h)
  exact va_mmax hx hb (hml.trans (hn.symm.trans hl.1.symm)) hown (hmem _ hw) (hmem _ hstat) (hmem _ hini) (hmem _ hcode) (by show 1 ≤ d; exact hdep) (by show _ ≤ 40 * d; omega) (Nat.le_refl _) (Nat.le_refl _) hd (kk p e s m args below meth c hc H locs ls hP hS hl hn)
theorem a_mmin {l : Launch} {G : GT} {d : Nat} {y : MT} {pc n : Nat} {vs : List (Option Value)} {st : List Value} {M : Mem} {R : Option Value → Mem → Prop} {idx : Nat} {x z : Int32} (hd : De y pc (.invokestatic idx) 3 n) (hw : Cond.methodLink y.1.cls idx Lib.Math.min.name ∈ lw_tblg) (hstat : Cond.static Lib.Math.min.name ∈ lw_tblg) (hini : Cond.initialized "java/lang/Math" ∈ lw_tblg) (hcode : Cond.code Lib.Math.min.name Lib.Math.min.code 2 (some .int) ∈ lw_tblg) (hdep : 1 ≤ d) (hst : (st.map fun v => v.category).sum ≤ 8) (kk : At l G d y n vs (.int (if z < x then z else x) :: st) M R) : At l G d y pc vs (.int z :: .int x :: st) M R := by
  obtain ⟨hd, rfl⟩ := hd
  intro p e s m args below meth c hc H locs ls hP hS hl hn
  obtain ⟨hx, hb, hr, hml, hown, hts, hlocks, hK, hJ, hC⟩ := id hc
  have hmem : ∀ w, w ∈ lw_tblg → w.before args s = true := fun w h => hts _ (List.mem_cons_of_mem _ h)
  exact va_mmin hx hb (hml.trans (hn.symm.trans hl.1.symm)) hown (hmem _ hw) (hmem _ hstat) (hmem _ hini) (hmem _ hcode) (by show 1 ≤ d; exact hdep) (by show _ ≤ 40 * d; omega) (Nat.le_refl _) (Nat.le_refl _) hd (kk p e s m args below meth c hc H locs ls hP hS hl hn)
theorem lw_good : GoodIn lw_tblg lw_tblg := fun w h => ⟨h, good_of_word (List.mem_filter.mp h).2⟩
theorem wsY_good {y y' : MT} (h : Cond.code y'.1 y'.2.1 y'.2.2.1 y'.2.2.2 ∈ lw_tblg) : GoodIn (wsY y) (wsY y') := by
  intro w hw
  rcases List.mem_cons.mp hw with rfl | hw
  · exact ⟨List.mem_cons_of_mem _ h, (lw_good _ h).2⟩
  · exact ⟨List.mem_cons_of_mem _ hw, (lw_good _ hw).2⟩
theorem a_call {l : Launch} {G : GT} {d : Nat} {y : MT} {pc : Nat} {vs : List (Option Value)} {st stk : List Value} {M : Mem} {R : Option Value → Mem → Prop} {y' : MT} {av : List Value} (hT : Tr l G d y' av M (fun r M' => At l G (d + 1) y (pc + 3) vs (r.toList ++ st) M' R))
    (hrun : ∀ (p : Program) (e : Env) (s : State) (m : MethodId) (args : Array Value) (below : List Frame) (meth : Method) (c : Code), Cx p y s m args meth c G → ∀ (H : Heap) (locs : List Loc) (ls : Array Slot), va_P G.2.1 clz (wl G M) H → va_S (GA G) s.heap H locs → Lo ls vs → vs.length = y.2.2.1 → Met l y'.1 (wsY y') (rmD d) (va_Pc av (Wd G M)) (QcW G (fun r M' => At l G (d + 1) y (pc + 3) vs (r.toList ++ st) M' R)) 0 0 (GA G) → PreS s H (va_Pc av (Wd G M)) av →
      va_Run p l e (rmD (d + 1)) s m args below meth c H locs 0 0 0 0 (F0 m pc ls stk) st (QcW G (fun r M' => At l G (d + 1) y (pc + 3) vs (r.toList ++ st) M' R) av.toArray) (GA G)) : At l G (d + 1) y pc vs stk M R := by
  intro p e s m args below meth c hc H locs ls hP hS hl hn
  obtain ⟨hx, hb, hr, hml, hown, hts, hlocks, hK, hJ, hC⟩ := id hc
  have hpre : PreS s H (va_Pc av (Wd G M)) av := ⟨fun a U g mk q => ⟨q.1, q.2.call g mk a⟩, fun U hU hW => ⟨rfl, by rw [hU]; exact hP, va_K.moved hW.alike hK, hJ, by rw [hU]; exact hC.warm hW hS.2.1⟩⟩
  have hr2 := hrun p e s m args below meth c hc H locs ls hP hS hl hn hT hpre
  intro T hT2 X
  obtain ⟨v, st₀, t, T', L, h0, X', hL, e1, e2, ⟨⟨r, M', hv, hat, hW1, -, -, -⟩, hz, hk⟩, hst⟩ := hr2 T hT2 X
  cases hv
  rw [h0] at hz hk
  have hS1 : va_S (GA G) s.heap T'.heap (locs ++ L) := ⟨Nat.le_trans hS.1 (by rw [e1]; exact hz), fun q h1 h2 => by rw [e1, hk q (Nat.lt_of_lt_of_le h1 hS.1) h2]; exact hS.2.1 q h1 h2, fun q hq => by
      rcases List.mem_append.mp hq with h | h
      · exact hS.2.2 q h
      · exact hL q h⟩
  obtain ⟨t2, a1, b1⟩ := hat p e s m args below meth c hc T'.heap (locs ++ L) ls (by rw [e1]; exact hW1) hS1 hl hn T' rfl X'
  exact ⟨t2, hst t2 a1, b1⟩
theorem rm_ok {d k : Nat} (h : k ≤ 21) : (rmD d).frames + 1 ≤ (rmD (d + 1)).frames ∧ 8 + (k + 11) + (rmD d).locals ≤ (rmD (d + 1)).locals := ⟨Nat.le_refl _, by show _ ≤ 40 * (d + 1); show 8 + (k + 11) + 40 * d ≤ _; omega⟩
theorem a_callS {l : Launch} {G : GT} {d : Nat} {y : MT} {pc n : Nat} {vs : List (Option Value)} {st stk : List Value} {M : Mem} {R : Option Value → Mem → Prop} {y' : MT} {idx : Nat} {np : Nat} (av : List Value) (hd : De y pc (.invokestatic idx) 3 n) (hl1 : Cond.methodLink y.1.cls idx y'.1 ∈ lw_tblg) (hl2 : Cond.static y'.1 ∈ lw_tblg) (hl3 : Cond.initialized y'.1.cls ∈ lw_tblg) (hl4 : Cond.code y'.1 y'.2.1 y'.2.2.1 y'.2.2.2 ∈ lw_tblg)
    (hdd : y'.1.cls ≠ "java/lang/invoke/MethodHandle" ∧ y'.1.cls ≠ "java/lang/invoke/VarHandle" ∧ (parseMethodDescriptor y'.1.desc).map (fun d => d.parameters.length) = some np) (hlen : av.length = np) (hm : y'.2.2.1 ≤ 21) (hst : (st.map fun v => v.category).sum ≤ 8) (hstk : av.reverse ++ st = stk)
    (hT : Tr l G d y' av M (fun r M' => At l G (d + 1) y n vs (r.toList ++ st) M' R)) : At l G (d + 1) y pc vs stk M R := by
  obtain ⟨hd, rfl⟩ := hd
  refine a_call hT (fun p e s m args below meth c hc H locs ls hP hS hl hn hM hpre => ?_)
  obtain ⟨hx, hb, hr, hml, hown, hts, hlocks, hK, hJ, hC⟩ := id hc
  have hmem : ∀ w, w ∈ lw_tblg → w.before args s = true := fun w h => hts _ (List.mem_cons_of_mem _ h)
  exact va_runS (As := av) (rest := st) ⟨hx, hb, hml, hown, hts⟩ hM ⟨callB_of np hts (wsY_good hl4) rfl rfl rfl (hmem _ hl3) (hmem _ hl1) hdd (rm_ok hm), hmem _ hl2⟩ hpre rfl hlen (hl.1.trans hn) hstk.symm (lv_room hst) hd ⟨Nat.le_refl _, Nat.le_refl _⟩
theorem a_callSN {l : Launch} {G : GT} {d : Nat} {y : MT} {pc n : Nat} {vs : List (Option Value)} {st stk : List Value} {M : Mem} {R : Option Value → Mem → Prop} {y' : MT} {idx : Nat} {host : String} {np : Nat} (av : List Value) (hd : De y pc (.invokestatic idx) 3 n) (hl1 : ∀ s : State, Kc G s s.heap → va_Nw (.methodLinkNest y.1.cls idx y'.1 host) s) (hl2 : Cond.static y'.1 ∈ lw_tblg) (hl3 : Cond.initialized y'.1.cls ∈ lw_tblg) (hl4 : Cond.code y'.1 y'.2.1 y'.2.2.1 y'.2.2.2 ∈ lw_tblg)
    (hdd : y'.1.cls ≠ "java/lang/invoke/MethodHandle" ∧ y'.1.cls ≠ "java/lang/invoke/VarHandle" ∧ (parseMethodDescriptor y'.1.desc).map (fun d => d.parameters.length) = some np) (hlen : av.length = np) (hm : y'.2.2.1 ≤ 21) (hst : (st.map fun v => v.category).sum ≤ 8) (hstk : av.reverse ++ st = stk)
    (hT : Tr l G d y' av M (fun r M' => At l G (d + 1) y n vs (r.toList ++ st) M' R)) : At l G (d + 1) y pc vs stk M R := by
  obtain ⟨hd, rfl⟩ := hd
  refine a_call hT (fun p e s m args below meth c hc H locs ls hP hS hl hn hM hpre => ?_)
  obtain ⟨hx, hb, hr, hml, hown, hts, hlocks, hK, hJ, hC⟩ := id hc
  have hmem : ∀ w, w ∈ lw_tblg → w.before args s = true := fun w h => hts _ (List.mem_cons_of_mem _ h)
  exact va_runSN (As := av) (rest := st) ⟨hx, hb, hml, hown, hts⟩ hM ⟨va_cnB np hts (wsY_good hl4) rfl rfl rfl (hl1 s hC) (hmem _ hl3) hdd (rm_ok hm), hmem _ hl2, trivial⟩ hpre rfl hlen (hl.1.trans hn) hstk.symm (lv_room hst) hd ⟨Nat.le_refl _, Nat.le_refl _⟩
theorem a_callV {l : Launch} {G : GT} {d : Nat} {y : MT} {pc n : Nat} {vs : List (Option Value)} {st stk : List Value} {M : Mem} {R : Option Value → Mem → Prop} {y' : MT} {idx k ci : Nat} {fl : List (Option Nat)} {T : u_T} {N : Nat} {np : Nat} (av : List Value) (hd : De y pc (.invokevirtual idx) 3 n) (hsh : shp k = (0, ci, fl)) (hk : inK k = true) (hc2 : clz[ci]? = some (y'.1.cls, T, N)) (hl1 : Cond.methodLink y.1.cls idx y'.1 ∈ lw_tblg) (hl2 : Cond.instanceMethod y'.1 ∈ lw_tblg) (hl5 : Cond.selects y'.1.cls y'.1 y'.1 ∈ lw_tblg) (hl3 : Cond.initialized y'.1.cls ∈ lw_tblg) (hl4 : Cond.code y'.1 y'.2.1 y'.2.2.1 y'.2.2.2 ∈ lw_tblg)
    (hdd : y'.1.cls ≠ "java/lang/invoke/MethodHandle" ∧ y'.1.cls ≠ "java/lang/invoke/VarHandle" ∧ (parseMethodDescriptor y'.1.desc).map (fun d => d.parameters.length) = some np) (hlen : av.length = np) (hm : y'.2.2.1 ≤ 21) (hst : (st.map fun v => v.category).sum ≤ 8) (hstk : av.reverse ++ .ref (G.1 k) :: st = stk)
    (hT : Tr l G d y' (.ref (G.1 k) :: av) M (fun r M' => At l G (d + 1) y n vs (r.toList ++ st) M' R)) : At l G (d + 1) y pc vs stk M R := by
  obtain ⟨hd, rfl⟩ := hd
  refine a_call hT (fun p e s m args below meth c hc H locs ls hP hS hl hn hM hpre => ?_)
  obtain ⟨hx, hb, hr, hml, hown, hts, hlocks, hK, hJ, hC⟩ := id hc
  have hmem : ∀ w, w ∈ lw_tblg → w.before args s = true := fun w h => hts _ (List.mem_cons_of_mem _ h)
  obtain ⟨q, hq, -⟩ := wl_at G M hk
  rw [cel_o G M hsh] at hq
  exact va_runV (As := av) (rest := st) (C := y'.1.cls) ⟨hx, hb, hml, hown, hts⟩ hM ⟨callB_of np hts (wsY_good hl4) rfl rfl rfl (hmem _ hl3) (hmem _ hl1) hdd (rm_ok hm), hmem _ hl2, hmem _ hl5⟩ ⟨hpre.1, va_recv hK hP hc2 hq, hpre.2⟩ rfl hlen (hl.1.trans hn) hstk.symm (lv_room hst) hd ⟨Nat.le_refl _, Nat.le_refl _⟩
