-- multianewarray: the rows' table, and its 14 rows
theorem outerC_eq (c : ClassId) (N h0 : Nat) : ∀ i, Jvm.Free.Multi.outerC c N h0 i = arrV c N (fun j => if j < i then .ref (h0 + 1 + j) else .null)
  | 0 => by
    unfold Jvm.Free.Multi.outerC
    rw [arrV_new]
    congr 1
  | i + 1 => by
    unfold Jvm.Free.Multi.outerC
    rw [outerC_eq c N h0 i, arrV_store]
    congr 1
    funext j
    unfold updV
    by_cases h : j = i
    · subst h
      rw [if_pos rfl, if_pos (Nat.lt_succ_self _)]
    · rw [if_neg h]
      show (if j < i then Value.ref (h0 + 1 + j) else Value.null) = _
      by_cases h2 : j < i
      · rw [if_pos h2, if_pos (by omega)]
      · rw [if_neg h2, if_neg (by omega)]
theorem arrV_congr (c : ClassId) {N : Nat} {f f' : Nat → Value} (h : ∀ j, j < N → f j = f' j) : arrV c N f = arrV c N f' := by
  unfold arrV
  congr 1
  apply congrArg
  funext j
  exact h j.val j.isLt
theorem dn_none {t k : Nat} (h : (TT.take t).all (fun e => e.1 != 1 || e.2.1 != k) = true) (i : Nat) : dnT t k i = false := by
  unfold dnT
  rw [List.any_eq_false]
  intro e he
  have := List.all_eq_true.mp h e he
  simp only [Bool.or_eq_true, bne_iff_ne, ne_eq] at this
  rcases this with h1 | h1 <;> simp [h1]
def mu_ad (ad : Nat → Nat) (h : Nat) : Nat → Nat := fun j => if j = 2 then h else if 7 ≤ j ∧ j < 21 then h + 1 + (j - 7) else ad j
theorem mT_31 : ∀ k, mT 31 k = fun _ => 0 := by
  intro k
  unfold mT
  have h : ∀ (l : List Ev) (M : Mem), l.all (fun e => e.1 != 2) = true → l.foldl (fun M e => if e.1 = 2 then um M e.2.1 e.2.2.1 e.2.2.2 else M) M = M := by
    intro l
    induction l with
    | nil => intro M _; rfl
    | cons e l ih =>
      intro M h
      rw [List.all_cons, Bool.and_eq_true] at h
      rw [List.foldl_cons, if_neg (by simpa using h.1)]
      exact ih M h.2
  rw [h _ _ (by decide +kernel)]
theorem mT_2 : ∀ k, mT 2 k = fun _ => 0 := by
  intro k
  rfl
theorem c_multi {l : Launch} {g : GT} {N0 d mc ms : Nat} {y : MT} {tE pc n : Nat} {vs : List (Option Value)} {st : List Value} {ad : Nat → Nat} {cs ss idx : Nat} (hd : De y pc (.multianewarray idx 2) 4 n) (hw : Cond.classLink y.1.cls idx "[[I" ∈ lw_tblg) (hcs : cs + 15 ≤ mc) (hss : ss + 1358 ≤ ms)
    (kk : ∀ ad' : Nat → Nat, (∀ j ∈ ksT 2, ad' j = ad j) → AC l g N0 d mc ms y tE n vs (.ref (ad' 2) :: st) 31 ad' (cs + 15) (ss + 1358)) : AC l g N0 d mc ms y tE pc vs (.int 96 :: .int 14 :: st) 2 ad cs ss := by
  obtain ⟨hd, rfl⟩ := hd
  intro p e s m args below meth c hc H locs ls hP hD hS hl hn
  obtain ⟨hx, hb, hr, hml, hown, hts, hlocks, hK, hC, hN0, hnm0⟩ := id hc
  have hmem : ∀ w, w ∈ lw_tblg → w.before args s = true := fun w h => hts _ (List.mem_cons_of_mem _ h)
  intro T hT X
  have e14 : (14 : Int32).toNatClampNeg = 14 := by decide
  have e96 : (96 : Int32).toNatClampNeg = 96 := by decide
  obtain ⟨vm₁, cA, comp, hW, hfA, hfC, -, -, X1, step⟩ := X.multianewarray2F hx (own := y.1.cls) (index := idx) (ty := .int) hown (hmem _ hw) (AOi.use hC.2.2.2) (hmem _ ac_i) (g := F0 m pc ls (.int 96 :: .int 14 :: st)) rfl (by rw [hb]; exact hd) (n := 14) (k := 96) (rest := st) rfl (by decide) (by decide) (by decide) (by decide) (by decide) rfl rfl (by rw [e14]; show cs + 15 ≤ mc; exact hcs) (by rw [e14, e96]; show ss + 1358 ≤ ms; exact hss)
  rw [e14, e96] at X1 step
  have hcA : cA = g.2.2.1 1 := Option.some.inj (hfA.symm.trans (hK.2 1 (g.2.2.1 1, .array .int) rfl).2)
  have hcO : comp = g.2.2.1 0 := Option.some.inj (hfC.symm.trans (hK.2 0 (g.2.2.1 0, .int) rfl).2)
  subst hcA
  subst hcO
  obtain ⟨f1, f2, -, -⟩ := Jvm.Free.Multi.fill_facts (T.setVm vm₁) (g.2.2.1 1) (g.2.2.1 0) 14 96 (defaultValue .int) 14
  have f3 := fun {a : Addr} (ha : a < (T.setVm vm₁).heap.size) => Jvm.Free.Multi.fill_old (T.setVm vm₁) (g.2.2.1 1) (g.2.2.1 0) 14 96 (defaultValue .int) ha 14
  have f4 := Jvm.Free.Multi.fill_inner (T.setVm vm₁) (g.2.2.1 1) (g.2.2.1 0) 14 96 (defaultValue .int) 14
  generalize hF : Jvm.Free.Multi.fill (T.setVm vm₁) (g.2.2.1 1) (g.2.2.1 0) 14 96 (defaultValue .int) 14 = F at X1 step f1 f2 f3 f4
  have hTs : (T.setVm vm₁).heap = T.heap := rfl
  rw [hTs] at f1 f2
  have f3 : ∀ a : Nat, a < T.heap.size → F.heap[a]? = T.heap[a]? := fun a ha => f3 ha
  have f4 : ∀ j, j < 14 → F.heap[T.heap.size + 1 + j]? = some (Jvm.Free.Multi.innerC (g.2.2.1 0) 96 (defaultValue .int)) := f4
  have hm31 : ∀ k ∈ ksT 31, k ∈ ksT 2 ∨ k = 2 ∨ (7 ≤ k ∧ k < 21) := by decide +kernel
  have hm2 : ∀ k ∈ ksT 2, k < 2 := by decide +kernel
  have hlt : ∀ k ∈ ksT 2, ad k < T.heap.size := fun k hk => by rw [hT]; exact (wt_P.mp hP k hk).lt
  have hh : ∀ k ∈ ksT 2, mu_ad ad T.heap.size k = ad k := fun k hk => by
    have := hm2 k hk
    unfold mu_ad
    rw [if_neg (by omega), if_neg (by omega)]
  have hP1 : va_P g.2.1 clz (wt g (mu_ad ad T.heap.size) 31) F.heap := by
    rw [wt_P]
    intro k hk
    rcases hm31 k hk with h | rfl | h
    · rw [hh k h, celT_cong (ad := ad) (t := 2)]
      · refine (wt_P.mp hP k h).kept ?_
        rw [← hT]
        exact f3 _ (hlt k h)
      · intro i
        have h9 : ∀ k, k < 2 → (TT.take 31).all (fun e => e.1 != 1 || e.2.1 != k) = true ∧ (TT.take 2).all (fun e => e.1 != 1 || e.2.1 != k) = true := by decide +kernel
        rw [dn_none (h9 k (hm2 k h)).1, dn_none (h9 k (hm2 k h)).2]
      · rw [mT_31, mT_2]
      · intro i j hdn
        have h9 : ∀ k, k < 2 → (TT.take 2).all (fun e => e.1 != 1 || e.2.1 != k) = true := by decide +kernel
        rw [dn_none (h9 k (hm2 k h))] at hdn
        cases hdn
    · rw [celT_q (k := 2) (q := 1) (n := 14) (fl := [some 7, some 8, some 9, some 10, some 11, some 12, some 13, some 14, some 15, some 16, some 17, some 18, some 19, some 20]) rfl]
      show F.heap[mu_ad ad T.heap.size 2]? = some (vp_cell _ _)
      rw [show mu_ad ad T.heap.size 2 = T.heap.size from rfl, f2, outerC_eq, vp_cell_q]
      refine congrArg some (arrV_congr _ (fun j hj => ?_))
      have h1 : ∀ j, j < 14 → dnT 31 2 j = true ∧ [some 7, some 8, some 9, some 10, some 11, some 12, some 13, some 14, some 15, some 16, some 17, some 18, some 19, some 20].getD j none = some (7 + j) := by decide +kernel
      rw [if_pos hj, if_pos (h1 j hj).1, (h1 j hj).2]
      show _ = va_rf (some (mu_ad ad T.heap.size (7 + j)))
      unfold mu_ad
      rw [if_neg (by omega), if_pos ⟨by omega, by omega⟩, show 7 + j - 7 = j by omega]
      rfl
    · have hs : ∀ k, 7 ≤ k → k < 21 → shp k = (1, 96, []) := by
        intro k h1 h2
        have h9 : ∀ k, k < 21 → 7 ≤ k → shp k = (1, 96, []) := by decide +kernel
        exact h9 k h2 h1
      rw [celT_i (hs k h.1 h.2), mT_31]
      show F.heap[mu_ad ad T.heap.size k]? = some (vp_cell _ _)
      have e1 : mu_ad ad T.heap.size k = T.heap.size + 1 + (k - 7) := by unfold mu_ad; rw [if_neg (by omega), if_pos h]
      rw [e1, f4 (k - 7) (by omega), vp_cell_i]
      unfold Jvm.Free.Multi.innerC
      rw [arrV_new]
      rfl
  have hD1 : va_D (fq N0) (wt g (mu_ad ad T.heap.size) 31) := by
    rw [wt_D]
    have hD0 := wt_D.mp hD
    have hNT : N0 ≤ T.heap.size := by rw [hT]; exact Nat.le_trans hN0 hS.1
    have hv : ∀ k ∈ ksT 31, (k ∈ ksT 2 ∧ mu_ad ad T.heap.size k = ad k ∧ ad k < T.heap.size) ∨ (k = 2 ∧ mu_ad ad T.heap.size k = T.heap.size) ∨ (7 ≤ k ∧ k < 21 ∧ mu_ad ad T.heap.size k = T.heap.size + 1 + (k - 7)) := by
      intro k hk
      rcases hm31 k hk with h | rfl | h
      · exact Or.inl ⟨h, hh k h, hlt k h⟩
      · exact Or.inr (Or.inl ⟨rfl, rfl⟩)
      · exact Or.inr (Or.inr ⟨h.1, h.2, by unfold mu_ad; rw [if_neg (by omega), if_pos h]⟩)
    refine ⟨fun i hi j hj e => ?_, fun i hi => ?_⟩
    · rcases hv i hi with ⟨a1, a2, a3⟩ | ⟨a1, a2⟩ | ⟨a1, a2, a3⟩ <;> rcases hv j hj with ⟨b1, b2, b3⟩ | ⟨b1, b2⟩ | ⟨b1, b2, b3⟩
      · exact hD0.1 i a1 j b1 (by omega)
      all_goals omega
    · show N0 ≤ _
      rcases hv i hi with ⟨a1, a2, a3⟩ | ⟨a1, a2⟩ | ⟨a1, a2, a3⟩
      · rw [a2]; exact hD0.2 i a1
      · omega
      · omega
  have hS1 : va_S (fq N0) s.heap F.heap locs := ⟨Nat.le_trans hS.1 (by rw [← hT]; omega), fun q h1 h2 => by
      have := hS.2.1 q h1 h2
      rw [← hT] at this
      rw [f3 q (by rw [hT]; exact Nat.lt_of_lt_of_le h1 hS.1)]
      exact this, hS.2.2⟩
  have k9 := W_mono (fun _ => MQ_mono (fun _ _ => QC.mono (t := 2) (t' := 31) (ad := ad) (by decide) hh)) (kk (mu_ad ad T.heap.size) hh p e s m args below meth c hc F.heap locs ls hP1 hD1 hS1 hl hn)
  obtain ⟨t3, a1, b1⟩ := k9 F rfl X1
  exact ⟨t3, step t3 a1, b1⟩
