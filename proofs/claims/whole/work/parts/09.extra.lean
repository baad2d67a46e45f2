-- rows behind the blocks
def kI (P : Int32 → Mem → Prop) : Option Value → Mem → Prop := fun r M' => ∃ v, r = some (.int v) ∧ P v M'
def kV (P : Mem → Prop) : Option Value → Mem → Prop := fun r M' => r = none ∧ P M'
theorem kI_i {P : Int32 → Mem → Prop} {v : Int32} {M : Mem} (h : P v M) : kI P (some (.int v)) M := ⟨v, rfl, h⟩
theorem kV_i {P : Mem → Prop} {M : Mem} (h : P M) : kV P none M := ⟨rfl, h⟩
def wkn : List Bool → List (Option Value) → List (Option Value)
  | b :: bs, o :: os => (if b then o else none) :: wkn bs os
  | _, _ => []
theorem wkn_at : ∀ (bs : List Bool) (vs : List (Option Value)) (i : Nat) (v : Value), (wkn bs vs)[i]? = some (some v) → vs[i]? = some (some v)
  | [], vs, i, v, h => by simp [wkn] at h
  | b :: bs, [], i, v, h => by simp [wkn] at h
  | b :: bs, o :: os, 0, v, h => by
    simp only [wkn, List.getElem?_cons_zero, Option.some.injEq] at h ⊢
    cases b
    · cases h
    · exact h
  | b :: bs, o :: os, i + 1, v, h => by
    simp only [wkn, List.getElem?_cons_succ] at h ⊢
    exact wkn_at bs os i v h
theorem wkn_len : ∀ (bs : List Bool) (vs : List (Option Value)), bs.length = vs.length → (wkn bs vs).length = vs.length
  | [], [], _ => rfl
  | [], o :: os, h => by cases h
  | b :: bs, [], h => by cases h
  | b :: bs, o :: os, h => by
    simp only [wkn, List.length_cons]
    rw [wkn_len bs os (by simpa using h)]
theorem a_weak {l : Launch} {G : GT} {d : Nat} {y : MT} {pc : Nat} {vs vs' : List (Option Value)} {st : List Value} {M : Mem} {R : Option Value → Mem → Prop} (bs : List Bool) (hb : bs.length = vs.length) (hw : wkn bs vs = vs') (kk : At l G d y pc vs' st M R) : At l G d y pc vs st M R := by
  subst hw
  intro p e s m args below meth c hc H locs ls hP hS hl hn
  exact kk p e s m args below meth c hc H locs ls hP hS ⟨hl.1.trans (wkn_len bs vs hb).symm, hl.2.1, fun i v hv => hl.2.2 i v (wkn_at bs vs i v hv)⟩ ((wkn_len bs vs hb).trans hn)
theorem tr_I {l : Launch} {G : GT} {d D : Nat} {y y2 : MT} {av : List Value} {M : Mem} {R : Option Value → Mem → Prop} {pc : Nat} {vs vs' : List (Option Value)} {st : List Value} (bs : List Bool) (hb : bs.length = vs.length) (hw : wkn bs vs = vs') (h : Tr l G d y av M (kI fun v M' => At l G D y2 pc vs' (.int v :: st) M' R)) : Tr l G d y av M (fun r M' => At l G D y2 pc vs (r.toList ++ st) M' R) :=
  h.mono (fun r M' ⟨v, e, h⟩ => by subst e; exact a_weak bs hb hw h)
theorem tr_V {l : Launch} {G : GT} {d D : Nat} {y y2 : MT} {av : List Value} {M : Mem} {R : Option Value → Mem → Prop} {pc : Nat} {vs vs' : List (Option Value)} {st : List Value} (bs : List Bool) (hb : bs.length = vs.length) (hw : wkn bs vs = vs') (h : Tr l G d y av M (kV fun M' => At l G D y2 pc vs' st M' R)) : Tr l G d y av M (fun r M' => At l G D y2 pc vs (r.toList ++ st) M' R) :=
  h.mono (fun r M' ⟨e, h⟩ => by subst e; exact a_weak bs hb hw h)
theorem ret_i {l : Launch} {G : GT} {D : Nat} {y2 : MT} {R : Option Value → Mem → Prop} {pc : Nat} {vs : List (Option Value)} {st : List Value} {M : Mem} {v : Int32} (h : At l G D y2 pc vs (.int v :: st) M R) : (fun (r : Option Value) (M' : Mem) => At l G D y2 pc vs (r.toList ++ st) M' R) (some (.int v)) M := h
theorem ret_v {l : Launch} {G : GT} {D : Nat} {y2 : MT} {R : Option Value → Mem → Prop} {pc : Nat} {vs : List (Option Value)} {st : List Value} {M : Mem} (h : At l G D y2 pc vs st M R) : (fun (r : Option Value) (M' : Mem) => At l G D y2 pc vs (r.toList ++ st) M' R) none M := h
theorem vpc {i : Int32} {n : Nat} (h : ¬ (i < 0 ∨ n ≤ i.toNatClampNeg)) : vp_in i n := h
theorem a_ialdc {l : Launch} {G : GT} {d : Nat} {y : MT} {pc n : Nat} {vs : List (Option Value)} {st : List Value} {M : Mem} {R : Option Value → Mem → Prop} {k len : Nat} {i : Int32} (j : Nat) (hd : De y pc .iaload 1 n) (hsh : shp k = (1, len, [])) (hk : inK k = true) (hi : ¬ (i < 0 ∨ len ≤ i.toNatClampNeg)) (hj : i.toNatClampNeg = j) (kk : At l G d y n vs (.int (M k j) :: st) M R) : At l G d y pc vs (.int i :: .ref (G.1 k) :: st) M R := by
  subst hj
  exact a_iald hd hsh hk hi kk
theorem a_iastc {l : Launch} {G : GT} {d : Nat} {y : MT} {pc n : Nat} {vs : List (Option Value)} {st : List Value} {M : Mem} {R : Option Value → Mem → Prop} {k len : Nat} {i x : Int32} (j : Nat) (hd : De y pc .iastore 1 n) (hsh : shp k = (1, len, [])) (hk : inK k = true) (hi : ¬ (i < 0 ∨ len ≤ i.toNatClampNeg)) (hj : i.toNatClampNeg = j) (kk : At l G d y n vs st (um M k j x) R) : At l G d y pc vs (.int x :: .int i :: .ref (G.1 k) :: st) M R := by
  subst hj
  exact a_iast hd hsh hk hi kk
theorem a_lconsti {l : Launch} {G : GT} {d : Nat} {y : MT} {pc n : Nat} {vs : List (Option Value)} {st : List Value} {M : Mem} {R : Option Value → Mem → Prop} {k : Fin 2} (w : Int32) (hd : De y pc (.lconst k) 1 n) (hv : Int64.ofNat (k : Nat) = w.toInt64) (kk : At l G d y n vs (.long w.toInt64 :: st) M R) : At l G d y pc vs st M R := a_lconst hd hv kk
theorem a_ldc2i {l : Launch} {G : GT} {d : Nat} {y : MT} {pc n : Nat} {vs : List (Option Value)} {st : List Value} {M : Mem} {R : Option Value → Mem → Prop} {k : Nat} {v : Int64} (w : Int32) (hd : De y pc (.ldc2_w k) 3 n) (hw : Cond.constantLong y.1.cls k v ∈ lw_tblg) (hv : v = w.toInt64) (kk : At l G d y n vs (.long w.toInt64 :: st) M R) : At l G d y pc vs st M R := by
  subst hv
  exact a_ldc2 hd hw kk
theorem lt64 (a b : Int32) : a.toInt64 < b.toInt64 ↔ a < b := by
  rw [Int64.lt_iff_toInt_lt, Int32.lt_iff_toInt_lt, Int32.toInt_toInt64, Int32.toInt_toInt64]
theorem le64 (a b : Int32) : a.toInt64 ≤ b.toInt64 ↔ a ≤ b := by
  rw [Int64.le_iff_toInt_le, Int32.le_iff_toInt_le, Int32.toInt_toInt64, Int32.toInt_toInt64]
theorem in_isIn {l : Launch} {G : GT} {d : Nat} {M : Mem} {R : Option Value → Mem → Prop} {v lo hi : Int32} (hv : (lo ≤ v → (v ≤ hi → R (some (.int 1)) M) ∧ (¬ v ≤ hi → R (some (.int 0)) M)) ∧ (¬ lo ≤ v → R (some (.int 0)) M)) : Tr l G d mX8_isIn [.long v.toInt64, .long lo.toInt64, .long hi.toInt64] M R := by
  refine Tr.of rfl (Nat.le_of_ble_eq_true rfl) rfl ?_
  refine a_lload_n eX8_isIn_0 rfl ?_
  refine a_lload_n eX8_isIn_1 rfl ?_
  refine a_lcmp eX8_isIn_2 ?_
  refine a_if_lt (tgt := 17) eX8_isIn_3 (by decide) (fun h => ?_) (fun h => ?_)
  · rw [lg_cmp_lt, lt64] at h
    refine a_iconst (v := 0) eX8_isIn_17 (by decide) ?_
    exact a_iret eX8_isIn_18 rfl rfl (hv.2 (Int32.not_le.mpr h))
  · rw [lg_cmp_lt, lt64] at h
    have hv := hv.1 (Int32.not_lt.mp h)
    refine a_lload_n eX8_isIn_6 rfl ?_
    refine a_lload eX8_isIn_7 rfl ?_
    refine a_lcmp eX8_isIn_9 ?_
    refine a_if_gt (tgt := 17) eX8_isIn_10 (by decide) (fun h => ?_) (fun h => ?_)
    · rw [lg_cmp_gt, lt64] at h
      refine a_iconst (v := 0) eX8_isIn_17 (by decide) ?_
      exact a_iret eX8_isIn_18 rfl rfl (hv.2 (Int32.not_le.mpr h))
    · rw [lg_cmp_gt, lt64] at h
      refine a_iconst (v := 1) eX8_isIn_13 (by decide) ?_
      refine a_goto (tgt := 18) eX8_isIn_14 (by decide) ?_
      exact a_iret eX8_isIn_18 rfl rfl (hv.1 (Int32.not_lt.mp h))
-- the table of kinds
def kav (i : Int32) : Int32 := ([-1, 0, 0, 1, 2, 0] : List Int32).getD i.toNatClampNeg 0
theorem a_getKA {l : Launch} {G : GT} {d : Nat} {y : MT} {pc n : Nat} {vs : List (Option Value)} {st : List Value} {M : Mem} {R : Option Value → Mem → Prop} (hd : De y pc (.getstatic 9) 3 n) (hy : y.1.cls = RX0) (kk : At l G d y n vs (.ref G.2.2.2.1 :: st) M R) : At l G d y pc vs st M R := by
  obtain ⟨hd, rfl⟩ := hd
  intro p e s m args below meth c hc H locs ls hP hS hl hn
  obtain ⟨hx, hb, hr, hml, hown, hts, hlocks, hK, hJ, hC⟩ := id hc
  rw [hy] at hown
  exact va_getsN hx hb hC.2.1 hS hown (va_Nw.use rfl hC.1.2.2.2) (fun _ h9 => h9) hd (kk p e s m args below meth c hc H locs ls hP hS hl hn)
theorem a_ialdT {l : Launch} {G : GT} {d : Nat} {y : MT} {pc n : Nat} {vs : List (Option Value)} {st : List Value} {M : Mem} {R : Option Value → Mem → Prop} {i : Int32} (hd : De y pc .iaload 1 n) (hi : vp_in i 6) (kk : At l G d y n vs (.int (kav i) :: st) M R) : At l G d y pc vs (.int i :: .ref G.2.2.2.1 :: st) M R := by
  obtain ⟨hd, rfl⟩ := hd
  intro p e s m args below meth c hc H locs ls hP hS hl hn
  obtain ⟨hx, hb, hr, hml, hown, hts, hlocks, hK, hJ, hC⟩ := id hc
  exact va_ti hx hb hC.2.2.1 hS hi (v := .int (kav i)) rfl hd (kk p e s m args below meth c hc H locs ls hP hS hl hn)
theorem a_ldcS {l : Launch} {G : GT} {d : Nat} {y : MT} {pc n : Nat} {vs : List (Option Value)} {st : List Value} {M : Mem} {R : Option Value → Mem → Prop} (i : Nat) (hi : i < 6) {k : Nat} (hd : De y pc (.ldc k) 2 n) (hy : y.1.cls = RX5) (hk : sidx i = k) (kk : At l G d y n vs (.ref (G.2.2.2.2.1 i) :: st) M R) : At l G d y pc vs st M R := by
  obtain ⟨hd, rfl⟩ := hd
  intro p e s m args below meth c hc H locs ls hP hS hl hn
  obtain ⟨hx, hb, hr, hml, hown, hts, hlocks, hK, hJ, hC⟩ := id hc
  rw [hy] at hown
  exact va_ldcS hx hb hown (hk ▸ hC.2.2.2.1 i hi) hd (kk p e s m args below meth c hc H locs ls hP hS hl hn)
theorem a_nm {l : Launch} {G : GT} {d : Nat} {y : MT} {pc : Nat} {vs : List (Option Value)} {st : List Value} {M0 : Mem} {R : Option Value → Mem → Prop} (k : ∀ M : Mem, M = M0 → At l G d y pc vs st M R) : At l G d y pc vs st M0 R := k M0 rfl
theorem ld30 : IsLd 30 := Or.inl rfl
theorem ld40 : IsLd 40 := Or.inr (Or.inl rfl)
theorem ld50 : IsLd 50 := Or.inr (Or.inr rfl)
theorem ml_X1_54 : Cond.methodLink RX1 54 arraycopyName ∈ lw_tblg := tbl_3 68 (by decide +kernel) (by decide +kernel)
theorem ml_X2_33 : Cond.methodLink RX2 33 arraycopyName ∈ lw_tblg := tbl_4 59 (by decide +kernel) (by decide +kernel)
theorem ml_X7_290 : Cond.methodLink RX7 290 arraycopyName ∈ lw_tblg := tbl_4 103 (by decide +kernel) (by decide +kernel)
theorem ml_X3_27 : Cond.methodLink RX3 27 arraycopyName ∈ lw_tblg := tbl_4 115 (by decide +kernel) (by decide +kernel)
theorem a_callVS {l : Launch} {G : GT} {d : Nat} {y : MT} {pc n : Nat} {vs : List (Option Value)} {st stk : List Value} {M : Mem} {R : Option Value → Mem → Prop} {y' : MT} {idx x : Nat} {np : Nat} (av : List Value) (hd : De y pc (.invokevirtual idx) 3 n) (hs : ∃ i, i < 6 ∧ x = G.2.2.2.2.1 i) (hcl : y'.1.cls = "java/lang/String") (hl1 : Cond.methodLink y.1.cls idx y'.1 ∈ lw_tblg) (hl2 : Cond.instanceMethod y'.1 ∈ lw_tblg) (hl5 : Cond.selects y'.1.cls y'.1 y'.1 ∈ lw_tblg) (hl3 : Cond.initialized y'.1.cls ∈ lw_tblg) (hl4 : Cond.code y'.1 y'.2.1 y'.2.2.1 y'.2.2.2 ∈ lw_tblg)
    (hdd : y'.1.cls ≠ "java/lang/invoke/MethodHandle" ∧ y'.1.cls ≠ "java/lang/invoke/VarHandle" ∧ (parseMethodDescriptor y'.1.desc).map (fun d => d.parameters.length) = some np) (hlen : av.length = np) (hm : y'.2.2.1 ≤ 21) (hst : (st.map fun v => v.category).sum ≤ 8) (hstk : av.reverse ++ .ref x :: st = stk)
    (hT : Tr l G d y' (.ref x :: av) M (fun r M' => At l G (d + 1) y n vs (r.toList ++ st) M' R)) : At l G (d + 1) y pc vs stk M R := by
  obtain ⟨hd, rfl⟩ := hd
  obtain ⟨i, hi, rfl⟩ := hs
  refine a_call hT (fun p e s m args below meth c hc H locs ls hP hS hl hn hM hpre => ?_)
  obtain ⟨hx, hb, hr, hml, hown, hts, hlocks, hK, hJ, hC⟩ := id hc
  have hmem : ∀ w, w ∈ lw_tblg → w.before args s = true := fun w h => hts _ (List.mem_cons_of_mem _ h)
  exact va_runV (As := av) (rest := st) (C := y'.1.cls) ⟨hx, hb, hml, hown, hts⟩ hM ⟨callB_of np hts (wsY_good hl4) rfl rfl rfl (hmem _ hl3) (hmem _ hl1) hdd (rm_ok hm), hmem _ hl2, hmem _ hl5⟩ ⟨hpre.1, by rw [hcl]; exact vk_recv hC.2.2.2.2.1 hi hS, hpre.2⟩ rfl hlen (hl.1.trans hn) hstk.symm (lv_room hst) hd ⟨Nat.le_refl _, Nat.le_refl _⟩
theorem qX5_86 {l : Launch} {G : GT} {d : Nat} {y : MT} {pc n : Nat} {vs : List (Option Value)} {st : List Value} {M : Mem} {R : Option Value → Mem → Prop} {x : Nat} {x0 : Int32} (hs : ∃ i, i < 6 ∧ x = G.2.2.2.2.1 i) (hy : y.1.cls = RX5) (hd : De y pc (.invokevirtual 86) 3 n) (hst : (st.map fun v => v.category).sum ≤ 8) (hT : Tr l G d mJ0_indexOf_0f7a4 [.ref x, .int x0] M (fun r M' => At l G (d + 1) y n vs (r.toList ++ st) M' R)) : At l G (d + 1) y pc vs (.int x0 :: .ref x :: st) M R := a_callVS (np := 1) [.int x0] hd hs rfl (by rw [hy]; exact ml_X5_86) im_J0_indexOf_0f7a4 se_J0_indexOf_0f7a4 in_J0 cw_J0_indexOf_0f7a4 (by decide +kernel) rfl (by decide +kernel) hst rfl hT
theorem qX5_101 {l : Launch} {G : GT} {d : Nat} {y : MT} {pc n : Nat} {vs : List (Option Value)} {st : List Value} {M : Mem} {R : Option Value → Mem → Prop} {x : Nat} (hs : ∃ i, i < 6 ∧ x = G.2.2.2.2.1 i) (hy : y.1.cls = RX5) (hd : De y pc (.invokevirtual 101) 3 n) (hst : (st.map fun v => v.category).sum ≤ 8) (hT : Tr l G d mJ0_length_8abf5 [.ref x] M (fun r M' => At l G (d + 1) y n vs (r.toList ++ st) M' R)) : At l G (d + 1) y pc vs (.ref x :: st) M R := a_callVS (np := 0) [] hd hs rfl (by rw [hy]; exact ml_X5_101) im_J0_length_8abf5 se_J0_length_8abf5 in_J0 cw_J0_length_8abf5 (by decide +kernel) rfl (by decide +kernel) hst rfl hT
theorem qX5_103 {l : Launch} {G : GT} {d : Nat} {y : MT} {pc n : Nat} {vs : List (Option Value)} {st : List Value} {M : Mem} {R : Option Value → Mem → Prop} {x : Nat} {x0 : Int32} (hs : ∃ i, i < 6 ∧ x = G.2.2.2.2.1 i) (hy : y.1.cls = RX5) (hd : De y pc (.invokevirtual 103) 3 n) (hst : (st.map fun v => v.category).sum ≤ 8) (hT : Tr l G d mJ0_charAt_5068e [.ref x, .int x0] M (fun r M' => At l G (d + 1) y n vs (r.toList ++ st) M' R)) : At l G (d + 1) y pc vs (.int x0 :: .ref x :: st) M R := a_callVS (np := 1) [.int x0] hd hs rfl (by rw [hy]; exact ml_X5_103) im_J0_charAt_5068e se_J0_charAt_5068e in_J0 cw_J0_charAt_5068e (by decide +kernel) rfl (by decide +kernel) hst rfl hT
theorem qJ0_335 {l : Launch} {G : GT} {d : Nat} {y : MT} {pc n : Nat} {vs : List (Option Value)} {st : List Value} {M : Mem} {R : Option Value → Mem → Prop} {x : Nat} (hs : ∃ i, i < 6 ∧ x = G.2.2.2.2.1 i) (hy : y.1.cls = RJ0) (hd : De y pc (.invokevirtual 335) 3 n) (hst : (st.map fun v => v.category).sum ≤ 8) (hT : Tr l G d mJ0_coder_7d493 [.ref x] M (fun r M' => At l G (d + 1) y n vs (r.toList ++ st) M' R)) : At l G (d + 1) y pc vs (.ref x :: st) M R := a_callVS (np := 0) [] hd hs rfl (by rw [hy]; exact ml_J0_335) im_J0_coder_7d493 se_J0_coder_7d493 in_J0 cw_J0_coder_7d493 (by decide +kernel) rfl (by decide +kernel) hst rfl hT
theorem qJ0_492 {l : Launch} {G : GT} {d : Nat} {y : MT} {pc n : Nat} {vs : List (Option Value)} {st : List Value} {M : Mem} {R : Option Value → Mem → Prop} {x : Nat} (hs : ∃ i, i < 6 ∧ x = G.2.2.2.2.1 i) (hy : y.1.cls = RJ0) (hd : De y pc (.invokevirtual 492) 3 n) (hst : (st.map fun v => v.category).sum ≤ 8) (hT : Tr l G d mJ0_isLatin1_aae02 [.ref x] M (fun r M' => At l G (d + 1) y n vs (r.toList ++ st) M' R)) : At l G (d + 1) y pc vs (.ref x :: st) M R := a_callVS (np := 0) [] hd hs rfl (by rw [hy]; exact ml_J0_492) im_J0_isLatin1_aae02 se_J0_isLatin1_aae02 in_J0 cw_J0_isLatin1_aae02 (by decide +kernel) rfl (by decide +kernel) hst rfl hT
theorem qJ0_505 {l : Launch} {G : GT} {d : Nat} {y : MT} {pc n : Nat} {vs : List (Option Value)} {st : List Value} {M : Mem} {R : Option Value → Mem → Prop} {x : Nat} (hs : ∃ i, i < 6 ∧ x = G.2.2.2.2.1 i) (hy : y.1.cls = RJ0) (hd : De y pc (.invokevirtual 505) 3 n) (hst : (st.map fun v => v.category).sum ≤ 8) (hT : Tr l G d mJ0_length_8abf5 [.ref x] M (fun r M' => At l G (d + 1) y n vs (r.toList ++ st) M' R)) : At l G (d + 1) y pc vs (.ref x :: st) M R := a_callVS (np := 0) [] hd hs rfl (by rw [hy]; exact ml_J0_505) im_J0_length_8abf5 se_J0_length_8abf5 in_J0 cw_J0_length_8abf5 (by decide +kernel) rfl (by decide +kernel) hst rfl hT
theorem qJ0_633 {l : Launch} {G : GT} {d : Nat} {y : MT} {pc n : Nat} {vs : List (Option Value)} {st : List Value} {M : Mem} {R : Option Value → Mem → Prop} {x : Nat} {x0 : Int32} {x1 : Int32} (hs : ∃ i, i < 6 ∧ x = G.2.2.2.2.1 i) (hy : y.1.cls = RJ0) (hd : De y pc (.invokevirtual 633) 3 n) (hst : (st.map fun v => v.category).sum ≤ 8) (hT : Tr l G d mJ0_indexOf_7cf53 [.ref x, .int x0, .int x1] M (fun r M' => At l G (d + 1) y n vs (r.toList ++ st) M' R)) : At l G (d + 1) y pc vs (.int x1 :: .int x0 :: .ref x :: st) M R := a_callVS (np := 2) [.int x0, .int x1] hd hs rfl (by rw [hy]; exact ml_J0_633) im_J0_indexOf_7cf53 se_J0_indexOf_7cf53 in_J0 cw_J0_indexOf_7cf53 (by decide +kernel) rfl (by decide +kernel) hst rfl hT
