-- the law's entry: the tables' part
theorem in_tbl {w : Cond} (h : w ∈ lw_tblg) : w ∈ lw_tbl := (List.mem_filter.mp h).1
theorem in_t1 {w : Cond} (h : w ∈ tables_1) : w ∈ lw_tbl := List.mem_append_right _ h
theorem tA {t : Nat} {w : Cond} (h : tables_1_1[t]? = some w) : w ∈ lw_tbl := in_t1 (List.mem_append_left _ (List.mem_of_getElem? h))
theorem tB {t : Nat} {w : Cond} (h : tables_1_2[t]? = some w) : w ∈ lw_tbl := in_t1 (List.mem_append_right _ (List.mem_append_left _ (List.mem_of_getElem? h)))
theorem tC {t : Nat} {w : Cond} (h : tables_1_3[t]? = some w) : w ∈ lw_tbl := in_t1 (List.mem_append_right _ (List.mem_append_right _ (List.mem_append_left _ (List.mem_of_getElem? h))))
theorem arr_of {s : State} {ty : FieldType} {cA comp : ClassId} {kA : Class} (h1 : s.vm.classes[cA]? = some kA) (h2 : kA.kind = .array comp ty) : ArrOfT s cA ty := fun _ _ => ⟨(fun k h => (by cases h)), kA, h1, comp, h2⟩
theorem st_K {s : State} {args : Array Value} (hts : ∀ w ∈ lw_tbl, w.before args s = true) : ∃ (D : va_G) (cA : Nat → ClassId), ∀ ad K0 sad vad, va_K D clz (tyz (ad, D, cA, K0, sad, vad)) s := by
  obtain ⟨cX1, iX1s, kX1⟩ := u_known (C := RX1) (T := TX1) (N := 20) (n := 20) hts (fun w h => in_tbl (iX1 w h)) (hts _ (in_tbl is_X1))
  obtain ⟨cX2, iX2s, kX2⟩ := u_known (C := RX2) (T := TX2) (N := 5) (n := 5) hts (fun w h => in_tbl (iX2 w h)) (hts _ (in_tbl is_X2))
  obtain ⟨cX3, iX3s, kX3⟩ := u_known (C := RX3) (T := TX3) (N := 3) (n := 3) hts (fun w h => in_tbl (iX3 w h)) (hts _ (in_tbl is_X3))
  obtain ⟨cX4, iX4s, kX4⟩ := u_known (C := RX4) (T := TX4) (N := 5) (n := 5) hts (fun w h => in_tbl (iX4 w h)) (hts _ (in_tbl is_X4))
  obtain ⟨cX5, iX5s, kX5⟩ := u_known (C := RX5) (T := TX5) (N := 9) (n := 9) hts (fun w h => in_tbl (iX5 w h)) (hts _ (in_tbl is_X5))
  obtain ⟨cX6, iX6s, kX6⟩ := u_known (C := RX6) (T := TX6) (N := 1) (n := 1) hts (fun w h => in_tbl (iX6 w h)) (hts _ (in_tbl is_X6))
  obtain ⟨cX7, iX7s, kX7⟩ := u_known (C := RX7) (T := TX7) (N := 12) (n := 12) hts (fun w h => in_tbl (iX7 w h)) (hts _ (in_tbl is_X7))
  obtain ⟨cX8, iX8s, kX8⟩ := u_known (C := RX8) (T := TX8) (N := 32) (n := 32) hts (fun w h => in_tbl (iX8 w h)) (hts _ (in_tbl is_X8))
  obtain ⟨a0, ka0, q0, e01, e02, e03⟩ := Cond.arrayClass_spec (hts _ (in_tbl ac_i))
  obtain ⟨p1, a1, ka1, f1, -, f2, f3, f4⟩ := arrayOverA_spec (hts _ (in_t1 ao_i))
  obtain ⟨p3, a3, ka3, g1, g2, g3, g4, g5⟩ := Cond.arrayOver_spec (hts _ (in_t1 ao_3))
  obtain ⟨p4, a4, ka4, j1, j2, j3, j4, j5⟩ := Cond.arrayOver_spec (hts _ (in_t1 ao_4))
  refine ⟨(fun c => [cX1, cX2, cX3, cX4, cX5, cX6, cX7, cX8].getD c 0, fun c => [iX1s, iX2s, iX3s, iX4s, iX5s, iX6s, iX7s, iX8s].getD c (fun _ => 0)), fun c => [a0, a1, a3, a4].getD c 0, fun ad K0 sad vad => ⟨fun c q hc => ?_, fun k q hk => ?_⟩⟩
  · match c, hc with
    | 0, hc => cases hc; exact kX1
    | 1, hc => cases hc; exact kX2
    | 2, hc => cases hc; exact kX3
    | 3, hc => cases hc; exact kX4
    | 4, hc => cases hc; exact kX5
    | 5, hc => cases hc; exact kX6
    | 6, hc => cases hc; exact kX7
    | 7, hc => cases hc; exact kX8
    | c + 8, hc => simp at hc
  · match k, hk with
    | 0, hk => cases hk; exact ⟨arr_of e02 e03, e01⟩
    | 1, hk => cases hk; exact ⟨arr_of f2 f3, f4⟩
    | 2, hk => cases hk; exact ⟨arr_of g3 g4, ka3, p3, g3, g4, g1, g5⟩
    | 3, hk => cases hk; exact ⟨arr_of j3 j4, ka4, p4, j3, j4, j1, j5⟩
    | k + 4, hk => simp [tyz] at hk
theorem st_N {s : State} {args : Array Value} (hts : ∀ w ∈ lw_tbl, w.before args s = true) : KN s := by
  refine ⟨fun q hq => ?_, va_AO.of (hts _ (in_t1 ao_3)), va_AO.of (hts _ (in_t1 ao_4)), AOi.of (hts _ (in_t1 ao_i))⟩
  simp only [nst, List.mem_cons, List.not_mem_nil, or_false] at hq
  rcases hq with rfl | rfl | rfl | rfl | rfl | rfl
  · exact va_Nw.of rfl (hts _ (in_t1 nk_X7_9))
  · exact va_Nw.of rfl (hts _ (in_t1 nk_X7_18))
  · exact va_Nw.of rfl (hts _ (in_t1 nk_X7_40))
  · exact va_Nw.of rfl (hts _ (in_t1 nk_X7_58))
  · exact va_Nw.of rfl (hts _ (in_t1 nk_X7_65))
  · exact va_Nw.of rfl (hts _ (in_t1 nk_X4_17))
def stm (i : Nat) : Term := .string RX5 (sidx i)
theorem st_el : ∀ i, i < 6 → ∀ j, j < slen.getD i 0 → Cond.eq (.elem (.field (stm i) "java/lang/String" "value" "[B") (.int (Int32.ofNat j))) (.int ((sbyt.getD i []).getD j 0)) ∈ flatC (Jvm.Cond.and given_1 narrow_1) := by decide +kernel
theorem st_ne : ∀ i, i < 6 → ∀ j, j < 6 → i ≠ j → (Cond.not (Cond.eq (stm i) (stm j))) ∈ flatC (Jvm.Cond.and given_1 narrow_1) ∨ (Cond.not (Cond.eq (stm j) (stm i))) ∈ flatC (Jvm.Cond.and given_1 narrow_1) := by decide +kernel
theorem st_C {b : Nat} {s : State} (hts : ∀ w ∈ lw_tbl, w.before #[Value.ref b] s = true) (hgv : (Jvm.Cond.and given_1 narrow_1).before #[Value.ref b] s = true) {A : Nat → Prop} (hA : ∀ a : Nat, a < s.heap.size → ¬ A a) :
    ∃ (K0 : Nat) (sad vad : Nat → Nat), (va_Nw wN1 s ∧ va_Nw wN2 s ∧ va_Nw wN3 s ∧ va_Nw wN4 s) ∧ va_Z "TattooRoads" "KIND_ABOVE" "[I" (.ref K0) A s s.heap ∧ va_T .int K0 6 kaf A s s.heap ∧ (∀ i, i < 6 → vk_R RX5 (sidx i) (stx i) (sad i) s) ∧ vk_S 6 slen sbyt sad vad A s s.heap ∧ va_Z "java/lang/String" "COMPACT_STRINGS" "Z" (.int 1) A s s.heap ∧ va_Zq "jdk/internal/util/Preconditions" "SIOOBE_FORMATTER" "Ljava/util/function/BiFunction;" A s s.heap := by
  have hs := flat_of_before _ hgv
  obtain ⟨K0, k1, k2⟩ := va_Tof (tm := .static "TattooRoads" "KIND_ABOVE" "[I") (ty := .int) (N := 6) (f := kaf) (A := A) (by decide) (hs _ (by decide +kernel)) (va_eqt (hs _ (by decide +kernel))) (fun j hj => by
    rcases (show j = 0 ∨ j = 1 ∨ j = 2 ∨ j = 3 ∨ j = 4 ∨ j = 5 by omega) with rfl | rfl | rfl | rfl | rfl | rfl
    · exact va_eqt (hs (.eq (.elem (.static "TattooRoads" "KIND_ABOVE" "[I") (.int 0)) (.int (-1))) (by decide +kernel))
    · exact va_eqt (hs (.eq (.elem (.static "TattooRoads" "KIND_ABOVE" "[I") (.int 1)) (.int 0)) (by decide +kernel))
    · exact va_eqt (hs (.eq (.elem (.static "TattooRoads" "KIND_ABOVE" "[I") (.int 2)) (.int 0)) (by decide +kernel))
    · exact va_eqt (hs (.eq (.elem (.static "TattooRoads" "KIND_ABOVE" "[I") (.int 3)) (.int 1)) (by decide +kernel))
    · exact va_eqt (hs (.eq (.elem (.static "TattooRoads" "KIND_ABOVE" "[I") (.int 4)) (.int 2)) (by decide +kernel))
    · exact va_eqt (hs (.eq (.elem (.static "TattooRoads" "KIND_ABOVE" "[I") (.int 5)) (.int 0)) (by decide +kernel))) hA
  have six : ∀ {P : Nat → Prop}, P 0 → P 1 → P 2 → P 3 → P 4 → P 5 → ∀ i, i < 6 → P i := by
    intro P p0 p1 p2 p3 p4 p5 i hi
    rcases (show i = 0 ∨ i = 1 ∨ i = 2 ∨ i = 3 ∨ i = 4 ∨ i = 5 by omega) with rfl | rfl | rfl | rfl | rfl | rfl <;> assumption
  obtain ⟨sad, vad, s1, s2⟩ := vk_Sof (args := #[Value.ref b]) (s := s) (N := 6) (tm := stm) (len := slen) (byt := sbyt) (A := A) (by decide +kernel)
    (six (hs _ (by decide +kernel)) (hs _ (by decide +kernel)) (hs _ (by decide +kernel)) (hs _ (by decide +kernel)) (hs _ (by decide +kernel)) (hs _ (by decide +kernel)))
    (six (hs _ (by decide +kernel)) (hs _ (by decide +kernel)) (hs _ (by decide +kernel)) (hs _ (by decide +kernel)) (hs _ (by decide +kernel)) (hs _ (by decide +kernel)))
    (six (hs _ (by decide +kernel)) (hs _ (by decide +kernel)) (hs _ (by decide +kernel)) (hs _ (by decide +kernel)) (hs _ (by decide +kernel)) (hs _ (by decide +kernel)))
    (six (hs _ (by decide +kernel)) (hs _ (by decide +kernel)) (hs _ (by decide +kernel)) (hs _ (by decide +kernel)) (hs _ (by decide +kernel)) (hs _ (by decide +kernel)))
    (fun i hi j hj => hs _ (st_el i hi j hj))
    (fun i j hi hj hij => (st_ne i hi j hj hij).imp (fun h => hs _ h) (fun h => hs _ h)) hA
  refine ⟨K0, sad, vad, ⟨va_Nw.of rfl (hts wN1 (tB (t := 84) (by decide +kernel))), va_Nw.of rfl (hts wN2 (tB (t := 145) (by decide +kernel))), va_Nw.of rfl (hts wN3 (tC (t := 14) (by decide +kernel))), va_Nw.of rfl (hts wN4 (tB (t := 109) (by decide +kernel)))⟩,
    va_Zof (hts _ (tB (t := 110) (by decide +kernel))) (hts _ (in_tbl in_X7)) k1 hA, k2, ?_, s1, va_Zof (hts _ (tC (t := 164) (by decide +kernel))) (hts _ (in_tbl in_J0)) (va_eqi (hs _ (by decide +kernel))) hA, va_Zqof (hts _ (tC (t := 180) (by decide +kernel))) (hts _ (tA (t := 15) (by decide +kernel))) (hs _ (by decide +kernel)) hA⟩
  exact six (vk_R.of (hts _ (tC (t := 150) (by decide +kernel))) (s2 0 (by decide))) (vk_R.of (hts _ (tC (t := 203) (by decide +kernel))) (s2 1 (by decide))) (vk_R.of (hts _ (tC (t := 204) (by decide +kernel))) (s2 2 (by decide))) (vk_R.of (hts _ (tC (t := 237) (by decide +kernel))) (s2 3 (by decide))) (vk_R.of (hts _ (tC (t := 238) (by decide +kernel))) (s2 4 (by decide))) (vk_R.of (hts _ (tC (t := 239) (by decide +kernel))) (s2 5 (by decide)))
