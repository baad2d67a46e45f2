theorem tX8_bits {l : Launch} {G : GT} {d : Nat} {M : Mem} {R : Option Value → Mem → Prop} {v0 : Int32} (hv : At l G (d + 4) mX8_bits 4 [none, some (.int 0), some (.int v0)] [] M R) : Tr l G (d + 4) mX8_bits [.int v0] M R := by
  refine Tr.of rfl (Nat.le_of_ble_eq_true rfl) (vs := [some (.int v0), none, none]) rfl ?_
  refine a_iconst (v := 0) eX8_bits_0 (by decide) ?_
  refine a_istore_n (vs' := [some (.int v0), some (.int 0), none]) eX8_bits_1 rfl (Nat.le_of_ble_eq_true rfl) rfl ?_
  refine a_iload_n eX8_bits_2 rfl ?_
  refine a_istore_n (vs' := [some (.int v0), some (.int 0), some (.int v0)]) eX8_bits_3 rfl (Nat.le_of_ble_eq_true rfl) rfl ?_
  exact a_weak [false, true, true] rfl rfl hv
theorem bX8_bits_4 {l : Launch} {G : GT} {d : Nat} {M : Mem} {R : Option Value → Mem → Prop} {v1 : Int32} {v2 : Int32} (hv : (v2 = 0 → R (some (.int v1)) M) ∧ (¬ (v2 = 0) → At l G (d + 4) mX8_bits 4 [none, some (.int (v1 + (v2 &&& 1))), some (.int (v2 >>> (1 &&& 31)))] [] M R)) : At l G (d + 4) mX8_bits 4 [none, some (.int v1), some (.int v2)] [] M R := by
  refine a_iload_n eX8_bits_4 rfl ?_
  refine a_if_eq (tgt := 21) eX8_bits_5 (by decide) (fun w1 => ?_) (fun w1 => ?_)
  · replace hv := hv.1 w1
    refine a_iload_n eX8_bits_21 rfl ?_
    exact a_iret eX8_bits_22 rfl rfl hv
  · replace hv := hv.2 w1
    refine a_iload_n eX8_bits_8 rfl ?_
    refine a_iload_n eX8_bits_9 rfl ?_
    refine a_iconst (v := 1) eX8_bits_10 (by decide) ?_
    refine a_iand eX8_bits_11 ?_
    refine a_iadd eX8_bits_12 ?_
    refine a_istore_n (vs' := [none, some (.int (v1 + (v2 &&& 1))), some (.int v2)]) eX8_bits_13 rfl (Nat.le_of_ble_eq_true rfl) rfl ?_
    refine a_iload_n eX8_bits_14 rfl ?_
    refine a_iconst (v := 1) eX8_bits_15 (by decide) ?_
    refine a_ishr eX8_bits_16 ?_
    refine a_istore_n (vs' := [none, some (.int (v1 + (v2 &&& 1))), some (.int (v2 >>> (1 &&& 31)))]) eX8_bits_17 rfl (Nat.le_of_ble_eq_true rfl) rfl ?_
    refine a_goto (tgt := 4) eX8_bits_18 (by decide) ?_
    exact a_weak [false, true, true] rfl rfl hv
theorem tX8_endsIn {l : Launch} {G : GT} {d : Nat} {M : Mem} {R : Option Value → Mem → Prop} {v1 : Int32} (hv : At l G (d + 4) mX8_endsIn 4 [some (.ref (G.1 100)), some (.int v1), some (.int 0), some (.int 0)] [] M R) : Tr l G (d + 4) mX8_endsIn [.ref (G.1 100), .int v1] M R := by
  refine Tr.of rfl (Nat.le_of_ble_eq_true rfl) (vs := [some (.ref (G.1 100)), some (.int v1), none, none]) rfl ?_
  refine a_iconst (v := 0) eX8_endsIn_0 (by decide) ?_
  refine a_istore_n (vs' := [some (.ref (G.1 100)), some (.int v1), some (.int 0), none]) eX8_endsIn_1 rfl (Nat.le_of_ble_eq_true rfl) rfl ?_
  refine a_iconst (v := 0) eX8_endsIn_2 (by decide) ?_
  refine a_istore_n (vs' := [some (.ref (G.1 100)), some (.int v1), some (.int 0), some (.int 0)]) eX8_endsIn_3 rfl (Nat.le_of_ble_eq_true rfl) rfl ?_
  exact a_weak [true, true, true, true] rfl rfl hv
theorem bX8_endsIn_4 {l : Launch} {G : GT} {d : Nat} {M : Mem} {R : Option Value → Mem → Prop} {v1 : Int32} {v2 : Int32} {v3 : Int32} (hv : ((M 101 3) ≤ v3 → R (some (.int v2)) M) ∧ (¬ ((M 101 3) ≤ v3) → vp_in (42 + (3 * v3)) 3084 ∧ ((M 101 (ix (42 + (3 * v3)))) = v1 → At l G (d + 4) mX8_endsIn 4 [some (.ref (G.1 100)), some (.int v1), some (.int (v2 ||| ((1 : Int32) <<< (v3 &&& 31)))), some (.int (v3 + 1))] [] M R) ∧ (¬ ((M 101 (ix (42 + (3 * v3)))) = v1) → vp_in ((42 + (3 * v3)) + 1) 3084 ∧ ((M 101 (ix ((42 + (3 * v3)) + 1))) = v1 → At l G (d + 4) mX8_endsIn 4 [some (.ref (G.1 100)), some (.int v1), some (.int (v2 ||| ((1 : Int32) <<< (v3 &&& 31)))), some (.int (v3 + 1))] [] M R) ∧ (¬ ((M 101 (ix ((42 + (3 * v3)) + 1))) = v1) → At l G (d + 4) mX8_endsIn 4 [some (.ref (G.1 100)), some (.int v1), some (.int (v2 ||| 0)), some (.int (v3 + 1))] [] M R)))) : At l G (d + 4) mX8_endsIn 4 [some (.ref (G.1 100)), some (.int v1), some (.int v2), some (.int v3)] [] M R := by
  refine a_iload_n eX8_endsIn_4 rfl ?_
  refine a_aload_n eX8_endsIn_5 rfl ?_
  refine gX8_0 eX8_endsIn_6 fl_X8_7 ?_
  refine a_iconst (v := 3) eX8_endsIn_9 (by decide) ?_
  refine a_ialdc 3 eX8_endsIn_10 sA101 kA101 (by decide) (by decide) ?_
  refine a_icmp_ge (tgt := 39) eX8_endsIn_11 (by decide) (fun w1 => ?_) (fun w1 => ?_)
  · replace hv := hv.1 w1
    refine a_iload_n eX8_endsIn_39 rfl ?_
    exact a_iret eX8_endsIn_40 rfl rfl hv
  · replace hv := hv.2 w1
    refine a_iload_n eX8_endsIn_14 rfl ?_
    refine a_aload_n eX8_endsIn_15 rfl ?_
    refine a_iload_n eX8_endsIn_16 rfl ?_
    refine a_iload_n eX8_endsIn_17 rfl ?_
    refine qX8_82 rfl eX8_endsIn_18 (Nat.le_of_ble_eq_true rfl) ?_
    refine Tr.of rfl (Nat.le_of_ble_eq_true rfl) (vs := [some (.ref (G.1 100)), some (.int v3), some (.int v1)]) rfl ?_
    refine a_aload_n eX8_touches_0 rfl ?_
    refine a_iload_n eX8_touches_1 rfl ?_
    refine qX8_75 rfl eX8_touches_2 (Nat.le_of_ble_eq_true rfl) ?_
    refine Tr.of rfl (Nat.le_of_ble_eq_true rfl) (vs := [some (.ref (G.1 100)), some (.int v3)]) rfl ?_
    refine a_aload_n eX8_from_0 rfl ?_
    refine gX8_0 eX8_from_1 fl_X8_7 ?_
    refine a_bipush (v := 42) eX8_from_4 (by decide) ?_
    refine a_iconst (v := 3) eX8_from_6 (by decide) ?_
    refine a_iload_n eX8_from_7 rfl ?_
    refine a_imul eX8_from_8 ?_
    refine a_iadd eX8_from_9 ?_
    obtain ⟨h2, hv⟩ := hv
    refine a_iald eX8_from_10 sA101 kA101 h2 ?_
    refine a_iret eX8_from_11 rfl rfl (ret_i ?_)
    refine a_iload_n eX8_touches_5 rfl ?_
    refine a_icmp_eq (tgt := 18) eX8_touches_6 (by decide) (fun w3 => ?_) (fun w3 => ?_)
    · replace hv := hv.1 w3
      refine a_iconst (v := 1) eX8_touches_18 (by decide) ?_
      refine a_goto (tgt := 23) eX8_touches_19 (by decide) ?_
      refine a_iret eX8_touches_23 rfl rfl (ret_i ?_)
      refine a_if_eq (tgt := 30) eX8_endsIn_21 (by decide) (fun h => absurd h (by decide)) (fun _ => ?_)
      refine a_iconst (v := 1) eX8_endsIn_24 (by decide) ?_
      refine a_iload_n eX8_endsIn_25 rfl ?_
      refine a_ishl eX8_endsIn_26 ?_
      refine a_goto (tgt := 31) eX8_endsIn_27 (by decide) ?_
      refine a_ior eX8_endsIn_31 ?_
      refine a_istore_n (vs' := [some (.ref (G.1 100)), some (.int v1), some (.int (v2 ||| ((1 : Int32) <<< (v3 &&& 31)))), some (.int v3)]) eX8_endsIn_32 rfl (Nat.le_of_ble_eq_true rfl) rfl ?_
      refine a_iinc (v := 1) (vs' := [some (.ref (G.1 100)), some (.int v1), some (.int (v2 ||| ((1 : Int32) <<< (v3 &&& 31)))), some (.int (v3 + 1))]) eX8_endsIn_33 rfl rfl (by decide) rfl ?_
      refine a_goto (tgt := 4) eX8_endsIn_36 (by decide) ?_
      exact a_weak [true, true, true, true] rfl rfl hv
    · replace hv := hv.2 w3
      refine a_aload_n eX8_touches_9 rfl ?_
      refine a_iload_n eX8_touches_10 rfl ?_
      refine qX8_79 rfl eX8_touches_11 (Nat.le_of_ble_eq_true rfl) ?_
      refine Tr.of rfl (Nat.le_of_ble_eq_true rfl) (vs := [some (.ref (G.1 100)), some (.int v3)]) rfl ?_
      refine a_aload_n eX8_to_0 rfl ?_
      refine gX8_0 eX8_to_1 fl_X8_7 ?_
      refine a_bipush (v := 42) eX8_to_4 (by decide) ?_
      refine a_iconst (v := 3) eX8_to_6 (by decide) ?_
      refine a_iload_n eX8_to_7 rfl ?_
      refine a_imul eX8_to_8 ?_
      refine a_iadd eX8_to_9 ?_
      refine a_iconst (v := 1) eX8_to_10 (by decide) ?_
      refine a_iadd eX8_to_11 ?_
      obtain ⟨h4, hv⟩ := hv
      refine a_iald eX8_to_12 sA101 kA101 h4 ?_
      refine a_iret eX8_to_13 rfl rfl (ret_i ?_)
      refine a_iload_n eX8_touches_14 rfl ?_
      refine a_icmp_ne (tgt := 22) eX8_touches_15 (by decide) (fun w5 => ?_) (fun w5 => ?_)
      · replace hv := hv.2 w5
        refine a_iconst (v := 0) eX8_touches_22 (by decide) ?_
        refine a_iret eX8_touches_23 rfl rfl (ret_i ?_)
        refine a_if_eq (tgt := 30) eX8_endsIn_21 (by decide) (fun _ => ?_) (fun h => absurd h (by decide))
        refine a_iconst (v := 0) eX8_endsIn_30 (by decide) ?_
        refine a_ior eX8_endsIn_31 ?_
        refine a_istore_n (vs' := [some (.ref (G.1 100)), some (.int v1), some (.int (v2 ||| 0)), some (.int v3)]) eX8_endsIn_32 rfl (Nat.le_of_ble_eq_true rfl) rfl ?_
        refine a_iinc (v := 1) (vs' := [some (.ref (G.1 100)), some (.int v1), some (.int (v2 ||| 0)), some (.int (v3 + 1))]) eX8_endsIn_33 rfl rfl (by decide) rfl ?_
        refine a_goto (tgt := 4) eX8_endsIn_36 (by decide) ?_
        exact a_weak [true, true, true, true] rfl rfl hv
      · replace hv := hv.1 w5
        refine a_iconst (v := 1) eX8_touches_18 (by decide) ?_
        refine a_goto (tgt := 23) eX8_touches_19 (by decide) ?_
        refine a_iret eX8_touches_23 rfl rfl (ret_i ?_)
        refine a_if_eq (tgt := 30) eX8_endsIn_21 (by decide) (fun h => absurd h (by decide)) (fun _ => ?_)
        refine a_iconst (v := 1) eX8_endsIn_24 (by decide) ?_
        refine a_iload_n eX8_endsIn_25 rfl ?_
        refine a_ishl eX8_endsIn_26 ?_
        refine a_goto (tgt := 31) eX8_endsIn_27 (by decide) ?_
        refine a_ior eX8_endsIn_31 ?_
        refine a_istore_n (vs' := [some (.ref (G.1 100)), some (.int v1), some (.int (v2 ||| ((1 : Int32) <<< (v3 &&& 31)))), some (.int v3)]) eX8_endsIn_32 rfl (Nat.le_of_ble_eq_true rfl) rfl ?_
        refine a_iinc (v := 1) (vs' := [some (.ref (G.1 100)), some (.int v1), some (.int (v2 ||| ((1 : Int32) <<< (v3 &&& 31)))), some (.int (v3 + 1))]) eX8_endsIn_33 rfl rfl (by decide) rfl ?_
        refine a_goto (tgt := 4) eX8_endsIn_36 (by decide) ?_
        exact a_weak [true, true, true, true] rfl rfl hv
theorem tX8_canRead {l : Launch} {G : GT} {d : Nat} {M : Mem} {R : Option Value → Mem → Prop} {v1 : Int32} {v2 : Int32} (hv : vp_in ((10 + (4 * v1)) + 3) 3084 ∧ vp_in ((10 + (4 * v1)) + 0) 3084 ∧ ((M 101 (ix ((10 + (4 * v1)) + 0))) = 2 → Tr l G (d + 3) mX8_endsIn [.ref (G.1 100), .int v2] M (kI fun q M' => At l G (d + 4) mX8_canRead 56 [none, none, none, none] [.int q, .int (M 101 (ix ((10 + (4 * v1)) + 3)))] M' R)) ∧ ((M 101 (ix ((10 + (4 * v1)) + 0))) = 3 → R (some (.int ((M 101 (ix ((10 + (4 * v1)) + 3))) &&& (-4682)))) M) ∧ ((M 101 (ix ((10 + (4 * v1)) + 0))) = 4 → Tr l G (d + 3) mX8_endsIn [.ref (G.1 100), .int v2] M (kI fun q M' => At l G (d + 4) mX8_canRead 64 [none, none, none, none] [.int q, .int (M 101 (ix ((10 + (4 * v1)) + 3)))] M' R)) ∧ ((M 101 (ix ((10 + (4 * v1)) + 0))) = 5 → Tr l G (d + 3) mX8_endsIn [.ref (G.1 100), .int v2] M (kI fun q M' => At l G (d + 4) mX8_canRead 78 [none, none, none, none] [.int q, .int 10922] M' R)) ∧ (¬ (M 101 (ix ((10 + (4 * v1)) + 0))) = 2 → ¬ (M 101 (ix ((10 + (4 * v1)) + 0))) = 3 → ¬ (M 101 (ix ((10 + (4 * v1)) + 0))) = 4 → ¬ (M 101 (ix ((10 + (4 * v1)) + 0))) = 5 → R (some (.int (M 101 (ix ((10 + (4 * v1)) + 3))))) M)) : Tr l G (d + 4) mX8_canRead [.ref (G.1 100), .int v1, .int v2] M R := by
  refine Tr.of rfl (Nat.le_of_ble_eq_true rfl) (vs := [some (.ref (G.1 100)), some (.int v1), some (.int v2), none]) rfl ?_
  refine a_aload_n eX8_canRead_0 rfl ?_
  refine a_iload_n eX8_canRead_1 rfl ?_
  refine a_iconst (v := 3) eX8_canRead_2 (by decide) ?_
  refine qX8_86 rfl eX8_canRead_3 (Nat.le_of_ble_eq_true rfl) ?_
  refine Tr.of rfl (Nat.le_of_ble_eq_true rfl) (vs := [some (.ref (G.1 100)), some (.int v1), some (.int 3)]) rfl ?_
  refine a_aload_n eX8_of_0 rfl ?_
  refine gX8_0 eX8_of_1 fl_X8_7 ?_
  refine a_bipush (v := 10) eX8_of_4 (by decide) ?_
  refine a_iconst (v := 4) eX8_of_6 (by decide) ?_
  refine a_iload_n eX8_of_7 rfl ?_
  refine a_imul eX8_of_8 ?_
  refine a_iadd eX8_of_9 ?_
  refine a_iload_n eX8_of_10 rfl ?_
  refine a_iadd eX8_of_11 ?_
  obtain ⟨h1, hv⟩ := hv
  refine a_iald eX8_of_12 sA101 kA101 h1 ?_
  refine a_iret eX8_of_13 rfl rfl (ret_i ?_)
  refine a_istore_n (vs' := [some (.ref (G.1 100)), some (.int v1), some (.int v2), some (.int (M 101 (ix ((10 + (4 * v1)) + 3))))]) eX8_canRead_6 rfl (Nat.le_of_ble_eq_true rfl) rfl ?_
  refine a_aload_n eX8_canRead_7 rfl ?_
  refine a_iload_n eX8_canRead_8 rfl ?_
  refine a_iconst (v := 0) eX8_canRead_9 (by decide) ?_
  refine qX8_86 rfl eX8_canRead_10 (Nat.le_of_ble_eq_true rfl) ?_
  refine Tr.of rfl (Nat.le_of_ble_eq_true rfl) (vs := [some (.ref (G.1 100)), some (.int v1), some (.int 0)]) rfl ?_
  refine a_aload_n eX8_of_0 rfl ?_
  refine gX8_0 eX8_of_1 fl_X8_7 ?_
  refine a_bipush (v := 10) eX8_of_4 (by decide) ?_
  refine a_iconst (v := 4) eX8_of_6 (by decide) ?_
  refine a_iload_n eX8_of_7 rfl ?_
  refine a_imul eX8_of_8 ?_
  refine a_iadd eX8_of_9 ?_
  refine a_iload_n eX8_of_10 rfl ?_
  refine a_iadd eX8_of_11 ?_
  obtain ⟨h2, hv⟩ := hv
  refine a_iald eX8_of_12 sA101 kA101 h2 ?_
  refine a_iret eX8_of_13 rfl rfl (ret_i ?_)
  by_cases w3 : (M 101 (ix ((10 + (4 * v1)) + 0))) = 2
  · refine a_tswIn 2 (tgt := 50) eX8_canRead_13 w3 (by decide) (by decide) rfl (by decide) ?_
    replace hv := hv.1 w3
    refine a_iload_n eX8_canRead_50 rfl ?_
    refine a_aload_n eX8_canRead_51 rfl ?_
    refine a_iload_n eX8_canRead_52 rfl ?_
    exact qX8_90 rfl eX8_canRead_53 (Nat.le_of_ble_eq_true rfl) (tr_I [false, false, false, false] rfl rfl hv)
  by_cases w4 : (M 101 (ix ((10 + (4 * v1)) + 0))) = 3
  · refine a_tswIn 3 (tgt := 44) eX8_canRead_13 w4 (by decide) (by decide) rfl (by decide) ?_
    replace hv := hv.2.1 w4
    refine a_iload_n eX8_canRead_44 rfl ?_
    refine a_sipush (v := (-4682)) eX8_canRead_45 (by decide) ?_
    refine a_iand eX8_canRead_48 ?_
    exact a_iret eX8_canRead_49 rfl rfl hv
  by_cases w5 : (M 101 (ix ((10 + (4 * v1)) + 0))) = 4
  · refine a_tswIn 4 (tgt := 58) eX8_canRead_13 w5 (by decide) (by decide) rfl (by decide) ?_
    replace hv := hv.2.2.1 w5
    refine a_iload_n eX8_canRead_58 rfl ?_
    refine a_aload_n eX8_canRead_59 rfl ?_
    refine a_iload_n eX8_canRead_60 rfl ?_
    exact qX8_90 rfl eX8_canRead_61 (Nat.le_of_ble_eq_true rfl) (tr_I [false, false, false, false] rfl rfl hv)
  by_cases w6 : (M 101 (ix ((10 + (4 * v1)) + 0))) = 5
  · refine a_tswIn 5 (tgt := 70) eX8_canRead_13 w6 (by decide) (by decide) rfl (by decide) ?_
    replace hv := hv.2.2.2.1 w6
    refine a_sipush (v := 10922) eX8_canRead_70 (by decide) ?_
    refine a_aload_n eX8_canRead_73 rfl ?_
    refine a_iload_n eX8_canRead_74 rfl ?_
    exact qX8_90 rfl eX8_canRead_75 (Nat.le_of_ble_eq_true rfl) (tr_I [false, false, false, false] rfl rfl hv)
  refine a_tswOut (tgt := 80) eX8_canRead_13 (by have zw3 := lv_neT (a := 2) w3 (by decide); have zw4 := lv_neT (a := 3) w4 (by decide); have zw5 := lv_neT (a := 4) w5 (by decide); have zw6 := lv_neT (a := 5) w6 (by decide); omega) (by decide) ?_
  replace hv := hv.2.2.2.2 w3 w4 w5 w6
  refine a_iload_n eX8_canRead_80 rfl ?_
  exact a_iret eX8_canRead_81 rfl rfl hv
theorem bX8_canRead_78 {l : Launch} {G : GT} {d : Nat} {M : Mem} {R : Option Value → Mem → Prop} {r : Int32} {t1 : Int32} (hv : R (some (.int (t1 &&& r))) M) : At l G (d + 4) mX8_canRead 78 [none, none, none, none] [.int r, .int t1] M R := by
  refine a_iand eX8_canRead_78 ?_
  exact a_iret eX8_canRead_79 rfl rfl hv
theorem bX8_canRead_64 {l : Launch} {G : GT} {d : Nat} {M : Mem} {R : Option Value → Mem → Prop} {r : Int32} {t1 : Int32} (hv : R (some (.int (t1 &&& (r ||| 10922)))) M) : At l G (d + 4) mX8_canRead 64 [none, none, none, none] [.int r, .int t1] M R := by
  refine a_sipush (v := 10922) eX8_canRead_64 (by decide) ?_
  refine a_ior eX8_canRead_67 ?_
  refine a_iand eX8_canRead_68 ?_
  exact a_iret eX8_canRead_69 rfl rfl hv
theorem bX8_canRead_56 {l : Launch} {G : GT} {d : Nat} {M : Mem} {R : Option Value → Mem → Prop} {r : Int32} {t1 : Int32} (hv : R (some (.int (t1 &&& r))) M) : At l G (d + 4) mX8_canRead 56 [none, none, none, none] [.int r, .int t1] M R := by
  refine a_iand eX8_canRead_56 ?_
  exact a_iret eX8_canRead_57 rfl rfl hv
theorem tX8_urge {l : Launch} {G : GT} {d : Nat} {M : Mem} {R : Option Value → Mem → Prop} {v1 : Int32} (hv : Tr l G (d + 3) mX8_counts [.ref (G.1 100), .int 0] M (kI fun q M' => At l G (d + 4) mX8_urge 5 [some (.ref (G.1 100)), some (.int v1), none] [.int q] M' R)) : Tr l G (d + 4) mX8_urge [.ref (G.1 100), .int v1] M R := by
  refine Tr.of rfl (Nat.le_of_ble_eq_true rfl) (vs := [some (.ref (G.1 100)), some (.int v1), none]) rfl ?_
  refine a_aload_n eX8_urge_0 rfl ?_
  refine a_iconst (v := 0) eX8_urge_1 (by decide) ?_
  exact qX8_93 rfl eX8_urge_2 (Nat.le_of_ble_eq_true rfl) (tr_I [true, true, false] rfl rfl hv)
theorem bX8_urge_5 {l : Launch} {G : GT} {d : Nat} {M : Mem} {R : Option Value → Mem → Prop} {v1 : Int32} {r : Int32} (hv : (0 ≤ r → vp_in ((10 + (4 * v1)) + 2) 3084 ∧ ∀ M3 : Mem, M3 = um (um M 115 119 (M 101 4)) 115 97 ((um M 115 119 (M 101 4)) 101 (ix ((10 + (4 * v1)) + 2))) → vp_in ((10 + (4 * v1)) + 1) 3084 ∧ Tr l G (d + 3) mX8_worked [.ref (G.1 100), .int r] (um M3 115 111 (M3 101 (ix ((10 + (4 * v1)) + 1)))) (kI fun q M' => At l G (d + 4) mX8_urge 61 [none, none, none] [.int q] M' R)) ∧ (¬ (0 ≤ r) → R (some (.int (M 101 4))) M)) : At l G (d + 4) mX8_urge 5 [some (.ref (G.1 100)), some (.int v1), none] [.int r] M R := by
  refine a_istore_n (vs' := [some (.ref (G.1 100)), some (.int v1), some (.int r)]) eX8_urge_5 rfl (Nat.le_of_ble_eq_true rfl) rfl ?_
  refine a_iload_n eX8_urge_6 rfl ?_
  refine a_if_ge (tgt := 17) eX8_urge_7 (by decide) (fun w1 => ?_) (fun w1 => ?_)
  · replace hv := hv.1 w1
    refine a_aload_n eX8_urge_17 rfl ?_
    refine gX8_26 eX8_urge_18 fl_X8_52 ?_
    refine a_bipush (v := 119) eX8_urge_21 (by decide) ?_
    refine a_aload_n eX8_urge_23 rfl ?_
    refine gX8_0 eX8_urge_24 fl_X8_7 ?_
    refine a_iconst (v := 4) eX8_urge_27 (by decide) ?_
    refine a_ialdc 4 eX8_urge_28 sA101 kA101 (by decide) (by decide) ?_
    refine a_iastc 119 eX8_urge_29 sA115 kA115 (by decide) (by decide) ?_
    refine a_aload_n eX8_urge_30 rfl ?_
    refine gX8_26 eX8_urge_31 fl_X8_52 ?_
    refine a_bipush (v := 97) eX8_urge_34 (by decide) ?_
    refine a_aload_n eX8_urge_36 rfl ?_
    refine a_iload_n eX8_urge_37 rfl ?_
    refine a_iconst (v := 2) eX8_urge_38 (by decide) ?_
    refine qX8_86 rfl eX8_urge_39 (Nat.le_of_ble_eq_true rfl) ?_
    refine Tr.of rfl (Nat.le_of_ble_eq_true rfl) (vs := [some (.ref (G.1 100)), some (.int v1), some (.int 2)]) rfl ?_
    refine a_aload_n eX8_of_0 rfl ?_
    refine gX8_0 eX8_of_1 fl_X8_7 ?_
    refine a_bipush (v := 10) eX8_of_4 (by decide) ?_
    refine a_iconst (v := 4) eX8_of_6 (by decide) ?_
    refine a_iload_n eX8_of_7 rfl ?_
    refine a_imul eX8_of_8 ?_
    refine a_iadd eX8_of_9 ?_
    refine a_iload_n eX8_of_10 rfl ?_
    refine a_iadd eX8_of_11 ?_
    obtain ⟨h2, hv⟩ := hv
    refine a_iald eX8_of_12 sA101 kA101 h2 ?_
    refine a_iret eX8_of_13 rfl rfl (ret_i ?_)
    refine a_iastc 97 eX8_urge_42 sA115 kA115 (by decide) (by decide) ?_
    refine a_nm (fun M3 eM3 => ?_)
    replace hv := hv M3 eM3
    refine a_aload_n eX8_urge_43 rfl ?_
    refine gX8_26 eX8_urge_44 fl_X8_52 ?_
    refine a_bipush (v := 111) eX8_urge_47 (by decide) ?_
    refine a_aload_n eX8_urge_49 rfl ?_
    refine a_iload_n eX8_urge_50 rfl ?_
    refine a_iconst (v := 1) eX8_urge_51 (by decide) ?_
    refine qX8_86 rfl eX8_urge_52 (Nat.le_of_ble_eq_true rfl) ?_
    refine Tr.of rfl (Nat.le_of_ble_eq_true rfl) (vs := [some (.ref (G.1 100)), some (.int v1), some (.int 1)]) rfl ?_
    refine a_aload_n eX8_of_0 rfl ?_
    refine gX8_0 eX8_of_1 fl_X8_7 ?_
    refine a_bipush (v := 10) eX8_of_4 (by decide) ?_
    refine a_iconst (v := 4) eX8_of_6 (by decide) ?_
    refine a_iload_n eX8_of_7 rfl ?_
    refine a_imul eX8_of_8 ?_
    refine a_iadd eX8_of_9 ?_
    refine a_iload_n eX8_of_10 rfl ?_
    refine a_iadd eX8_of_11 ?_
    obtain ⟨h4, hv⟩ := hv
    refine a_iald eX8_of_12 sA101 kA101 h4 ?_
    refine a_iret eX8_of_13 rfl rfl (ret_i ?_)
    refine a_iastc 111 eX8_urge_55 sA115 kA115 (by decide) (by decide) ?_
    refine a_aload_n eX8_urge_56 rfl ?_
    refine a_iload_n eX8_urge_57 rfl ?_
    exact qX8_96 rfl eX8_urge_58 (Nat.le_of_ble_eq_true rfl) (tr_I [false, false, false] rfl rfl hv)
  · replace hv := hv.2 w1
    refine a_aload_n eX8_urge_10 rfl ?_
    refine gX8_0 eX8_urge_11 fl_X8_7 ?_
    refine a_iconst (v := 4) eX8_urge_14 (by decide) ?_
    refine a_ialdc 4 eX8_urge_15 sA101 kA101 (by decide) (by decide) ?_
    exact a_iret eX8_urge_16 rfl rfl hv
theorem bX8_urge_61 {l : Launch} {G : GT} {d : Nat} {M : Mem} {R : Option Value → Mem → Prop} {r : Int32} (hv : (0 ≤ r → (r ≤ 100 → R (some (.int r)) M) ∧ (¬ (r ≤ 100) → R (some (.int 100)) M)) ∧ (¬ (0 ≤ r) → R (some (.int 0)) M)) : At l G (d + 4) mX8_urge 61 [none, none, none] [.int r] M R := by
  refine a_bipush (v := 100) eX8_urge_61 (by decide) ?_
  refine qX8_99 rfl eX8_urge_63 (Nat.le_of_ble_eq_true rfl) ?_
  refine Tr.of rfl (Nat.le_of_ble_eq_true rfl) (vs := [some (.int r), some (.int 100)]) rfl ?_
  refine a_iload_n eX8_within_0 rfl ?_
  refine a_if_ge (tgt := 8) eX8_within_1 (by decide) (fun w1 => ?_) (fun w1 => ?_)
  · replace hv := hv.1 w1
    refine a_iload_n eX8_within_8 rfl ?_
    refine a_iload_n eX8_within_9 rfl ?_
    refine a_icmp_le (tgt := 17) eX8_within_10 (by decide) (fun w2 => ?_) (fun w2 => ?_)
    · replace hv := hv.1 w2
      refine a_iload_n eX8_within_17 rfl ?_
      refine a_iret eX8_within_18 rfl rfl (ret_i ?_)
      exact a_iret eX8_urge_66 rfl rfl hv
    · replace hv := hv.2 w2
      refine a_iload_n eX8_within_13 rfl ?_
      refine a_goto (tgt := 18) eX8_within_14 (by decide) ?_
      refine a_iret eX8_within_18 rfl rfl (ret_i ?_)
      exact a_iret eX8_urge_66 rfl rfl hv
  · replace hv := hv.2 w1
    refine a_iconst (v := 0) eX8_within_4 (by decide) ?_
    refine a_goto (tgt := 18) eX8_within_5 (by decide) ?_
    refine a_iret eX8_within_18 rfl rfl (ret_i ?_)
    exact a_iret eX8_urge_66 rfl rfl hv
theorem tX8_worth {l : Launch} {G : GT} {d : Nat} {M : Mem} {R : Option Value → Mem → Prop} {v1 : Int32} (hv : vp_in ((10 + (4 * v1)) + 3) 3084 ∧ Tr l G (d + 3) mX8_bits [.int (M 101 (ix ((10 + (4 * v1)) + 3)))] M (kI fun q M' => At l G (d + 4) mX8_worth 9 [some (.ref (G.1 100)), some (.int v1), none] [.int q] M' R)) : Tr l G (d + 4) mX8_worth [.ref (G.1 100), .int v1] M R := by
  refine Tr.of rfl (Nat.le_of_ble_eq_true rfl) (vs := [some (.ref (G.1 100)), some (.int v1), none]) rfl ?_
  refine a_aload_n eX8_worth_0 rfl ?_
  refine a_iload_n eX8_worth_1 rfl ?_
  refine a_iconst (v := 3) eX8_worth_2 (by decide) ?_
  refine qX8_86 rfl eX8_worth_3 (Nat.le_of_ble_eq_true rfl) ?_
  refine Tr.of rfl (Nat.le_of_ble_eq_true rfl) (vs := [some (.ref (G.1 100)), some (.int v1), some (.int 3)]) rfl ?_
  refine a_aload_n eX8_of_0 rfl ?_
  refine gX8_0 eX8_of_1 fl_X8_7 ?_
  refine a_bipush (v := 10) eX8_of_4 (by decide) ?_
  refine a_iconst (v := 4) eX8_of_6 (by decide) ?_
  refine a_iload_n eX8_of_7 rfl ?_
  refine a_imul eX8_of_8 ?_
  refine a_iadd eX8_of_9 ?_
  refine a_iload_n eX8_of_10 rfl ?_
  refine a_iadd eX8_of_11 ?_
  obtain ⟨h1, hv⟩ := hv
  refine a_iald eX8_of_12 sA101 kA101 h1 ?_
  refine a_iret eX8_of_13 rfl rfl (ret_i ?_)
  exact qX8_102 rfl eX8_worth_6 (Nat.le_of_ble_eq_true rfl) (tr_I [true, true, false] rfl rfl hv)
theorem bX8_worth_9 {l : Launch} {G : GT} {d : Nat} {M : Mem} {R : Option Value → Mem → Prop} {v1 : Int32} {r : Int32} (hv : vp_in ((10 + (4 * v1)) + 0) 3084 ∧ ((M 101 (ix ((10 + (4 * v1)) + 0))) = 1 → R (some (.int (r + 5))) M) ∧ ((M 101 (ix ((10 + (4 * v1)) + 0))) = 2 → R (some (.int (40 - r))) M) ∧ ((M 101 (ix ((10 + (4 * v1)) + 0))) = 3 → R (some (.int (2 * (r + 5)))) M) ∧ ((M 101 (ix ((10 + (4 * v1)) + 0))) = 4 → R (some (.int (36 - r))) M) ∧ ((M 101 (ix ((10 + (4 * v1)) + 0))) = 5 → R (some (.int 3)) M) ∧ (¬ (M 101 (ix ((10 + (4 * v1)) + 0))) = 1 → ¬ (M 101 (ix ((10 + (4 * v1)) + 0))) = 2 → ¬ (M 101 (ix ((10 + (4 * v1)) + 0))) = 3 → ¬ (M 101 (ix ((10 + (4 * v1)) + 0))) = 4 → ¬ (M 101 (ix ((10 + (4 * v1)) + 0))) = 5 → R (some (.int r)) M)) : At l G (d + 4) mX8_worth 9 [some (.ref (G.1 100)), some (.int v1), none] [.int r] M R := by
  refine a_istore_n (vs' := [some (.ref (G.1 100)), some (.int v1), some (.int r)]) eX8_worth_9 rfl (Nat.le_of_ble_eq_true rfl) rfl ?_
  refine a_aload_n eX8_worth_10 rfl ?_
  refine a_iload_n eX8_worth_11 rfl ?_
  refine a_iconst (v := 0) eX8_worth_12 (by decide) ?_
  refine qX8_86 rfl eX8_worth_13 (Nat.le_of_ble_eq_true rfl) ?_
  refine Tr.of rfl (Nat.le_of_ble_eq_true rfl) (vs := [some (.ref (G.1 100)), some (.int v1), some (.int 0)]) rfl ?_
  refine a_aload_n eX8_of_0 rfl ?_
  refine gX8_0 eX8_of_1 fl_X8_7 ?_
  refine a_bipush (v := 10) eX8_of_4 (by decide) ?_
  refine a_iconst (v := 4) eX8_of_6 (by decide) ?_
  refine a_iload_n eX8_of_7 rfl ?_
  refine a_imul eX8_of_8 ?_
  refine a_iadd eX8_of_9 ?_
  refine a_iload_n eX8_of_10 rfl ?_
  refine a_iadd eX8_of_11 ?_
  obtain ⟨h1, hv⟩ := hv
  refine a_iald eX8_of_12 sA101 kA101 h1 ?_
  refine a_iret eX8_of_13 rfl rfl (ret_i ?_)
  by_cases w2 : (M 101 (ix ((10 + (4 * v1)) + 0))) = 1
  · refine a_tswIn 1 (tgt := 52) eX8_worth_16 w2 (by decide) (by decide) rfl (by decide) ?_
    replace hv := hv.1 w2
    refine a_iload_n eX8_worth_52 rfl ?_
    refine a_iconst (v := 5) eX8_worth_53 (by decide) ?_
    refine a_iadd eX8_worth_54 ?_
    exact a_iret eX8_worth_55 rfl rfl hv
  by_cases w3 : (M 101 (ix ((10 + (4 * v1)) + 0))) = 2
  · refine a_tswIn 2 (tgt := 56) eX8_worth_16 w3 (by decide) (by decide) rfl (by decide) ?_
    replace hv := hv.2.1 w3
    refine a_bipush (v := 40) eX8_worth_56 (by decide) ?_
    refine a_iload_n eX8_worth_58 rfl ?_
    refine a_isub eX8_worth_59 ?_
    exact a_iret eX8_worth_60 rfl rfl hv
  by_cases w4 : (M 101 (ix ((10 + (4 * v1)) + 0))) = 3
  · refine a_tswIn 3 (tgt := 61) eX8_worth_16 w4 (by decide) (by decide) rfl (by decide) ?_
    replace hv := hv.2.2.1 w4
    refine a_iconst (v := 2) eX8_worth_61 (by decide) ?_
    refine a_iload_n eX8_worth_62 rfl ?_
    refine a_iconst (v := 5) eX8_worth_63 (by decide) ?_
    refine a_iadd eX8_worth_64 ?_
    refine a_imul eX8_worth_65 ?_
    exact a_iret eX8_worth_66 rfl rfl hv
  by_cases w5 : (M 101 (ix ((10 + (4 * v1)) + 0))) = 4
  · refine a_tswIn 4 (tgt := 67) eX8_worth_16 w5 (by decide) (by decide) rfl (by decide) ?_
    replace hv := hv.2.2.2.1 w5
    refine a_bipush (v := 36) eX8_worth_67 (by decide) ?_
    refine a_iload_n eX8_worth_69 rfl ?_
    refine a_isub eX8_worth_70 ?_
    exact a_iret eX8_worth_71 rfl rfl hv
  by_cases w6 : (M 101 (ix ((10 + (4 * v1)) + 0))) = 5
  · refine a_tswIn 5 (tgt := 72) eX8_worth_16 w6 (by decide) (by decide) rfl (by decide) ?_
    replace hv := hv.2.2.2.2.1 w6
    refine a_iconst (v := 3) eX8_worth_72 (by decide) ?_
    exact a_iret eX8_worth_73 rfl rfl hv
  refine a_tswOut (tgt := 74) eX8_worth_16 (by have zw2 := lv_neT (a := 1) w2 (by decide); have zw3 := lv_neT (a := 2) w3 (by decide); have zw4 := lv_neT (a := 3) w4 (by decide); have zw5 := lv_neT (a := 4) w5 (by decide); have zw6 := lv_neT (a := 5) w6 (by decide); omega) (by decide) ?_
  replace hv := hv.2.2.2.2.2 w2 w3 w4 w5 w6
  refine a_iload_n eX8_worth_74 rfl ?_
  exact a_iret eX8_worth_75 rfl rfl hv
theorem tX8_one {l : Launch} {G : GT} {d : Nat} {M : Mem} {R : Option Value → Mem → Prop} {v1 : Int32} {v2 : Int32} {v3 : Int32} (hv : (0 ≤ v1 → (v1 ≤ 5 → (0 ≤ v2 → (v2 ≤ 9 → (0 ≤ v3 → (v3 ≤ 99 → ((M 101 0) = 8 → R (some (.int (-1000000003))) M) ∧ (¬ ((M 101 0) = 8) → vp_in ((10 + (4 * (M 101 0))) + 0) 3084 ∧ ∀ M3 : Mem, M3 = um (um M 101 0 ((M 101 0) + 1)) 101 (ix ((10 + (4 * (M 101 0))) + 0)) v1 → vp_in ((10 + (4 * (M 101 0))) + 1) 3084 ∧ vp_in ((10 + (4 * (M 101 0))) + 2) 3084 ∧ ∀ M6 : Mem, M6 = um (um M3 101 (ix ((10 + (4 * (M 101 0))) + 1)) v2) 101 (ix ((10 + (4 * (M 101 0))) + 2)) v3 → vp_in ((10 + (4 * (M 101 0))) + 3) 3084 ∧ R (some (.int (((um M6 101 (ix ((10 + (4 * (M 101 0))) + 3)) 0) 101 0) - 1))) (um M6 101 (ix ((10 + (4 * (M 101 0))) + 3)) 0))) ∧ (¬ (v3 ≤ 99) → R (some (.int (-1000000001))) M)) ∧ (¬ (0 ≤ v3) → R (some (.int (-1000000001))) M)) ∧ (¬ (v2 ≤ 9) → R (some (.int (-1000000001))) M)) ∧ (¬ (0 ≤ v2) → R (some (.int (-1000000001))) M)) ∧ (¬ (v1 ≤ 5) → R (some (.int (-1000000001))) M)) ∧ (¬ (0 ≤ v1) → R (some (.int (-1000000001))) M)) : Tr l G (d + 4) mX8_one [.ref (G.1 100), .int v1, .int v2, .int v3] M R := by
  refine Tr.of rfl (Nat.le_of_ble_eq_true rfl) (vs := [some (.ref (G.1 100)), some (.int v1), some (.int v2), some (.int v3)]) rfl ?_
  refine a_iload_n eX8_one_0 rfl ?_
  refine a_i2l eX8_one_1 ?_
  refine a_lconsti 0 eX8_one_2 (by decide) ?_
  refine a_ldc2i 5 eX8_one_3 kl_X8_109 (by decide) ?_
  refine qX8_68 rfl eX8_one_6 (Nat.le_of_ble_eq_true rfl) ?_
  refine in_isIn (v := v1) (lo := 0) (hi := 5) ⟨fun w12 => ⟨fun w13 => ret_i ?_, fun w13 => ret_i ?_⟩, fun w12 => ret_i ?_⟩
  · replace hv := (hv.1 w12).1 w13
    refine a_if_eq (tgt := 31) eX8_one_9 (by decide) (fun h => absurd h (by decide)) (fun _ => ?_)
    refine a_iload_n eX8_one_12 rfl ?_
    refine qX8_111 rfl eX8_one_13 (Nat.le_of_ble_eq_true rfl) ?_
    refine Tr.of rfl (Nat.le_of_ble_eq_true rfl) (vs := [some (.int v2)]) rfl ?_
    refine a_iload_n eX8_isPlace_0 rfl ?_
    refine a_i2l eX8_isPlace_1 ?_
    refine a_lconsti 0 eX8_isPlace_2 (by decide) ?_
    refine a_ldc2i 9 eX8_isPlace_3 kl_X8_73 (by decide) ?_
    refine qX8_68 rfl eX8_isPlace_6 (Nat.le_of_ble_eq_true rfl) ?_
    refine in_isIn (v := v2) (lo := 0) (hi := 9) ⟨fun w10 => ⟨fun w11 => ret_i ?_, fun w11 => ret_i ?_⟩, fun w10 => ret_i ?_⟩
    · replace hv := (hv.1 w10).1 w11
      refine a_iret eX8_isPlace_9 rfl rfl (ret_i ?_)
      refine a_if_eq (tgt := 31) eX8_one_16 (by decide) (fun h => absurd h (by decide)) (fun _ => ?_)
      refine a_iload_n eX8_one_19 rfl ?_
      refine a_i2l eX8_one_20 ?_
      refine a_lconsti 0 eX8_one_21 (by decide) ?_
      refine a_ldc2i 99 eX8_one_22 kl_X8_115 (by decide) ?_
      refine qX8_68 rfl eX8_one_25 (Nat.le_of_ble_eq_true rfl) ?_
      refine in_isIn (v := v3) (lo := 0) (hi := 99) ⟨fun w8 => ⟨fun w9 => ret_i ?_, fun w9 => ret_i ?_⟩, fun w8 => ret_i ?_⟩
      · replace hv := (hv.1 w8).1 w9
        refine a_if_ne (tgt := 34) eX8_one_28 (by decide) (fun _ => ?_) (fun h => absurd h (by decide))
        refine a_aload_n eX8_one_34 rfl ?_
        refine gX8_0 eX8_one_35 fl_X8_7 ?_
        refine a_iconst (v := 0) eX8_one_38 (by decide) ?_
        refine a_ialdc 0 eX8_one_39 sA101 kA101 (by decide) (by decide) ?_
        refine a_bipush (v := 8) eX8_one_40 (by decide) ?_
        refine a_icmp_ne (tgt := 48) eX8_one_42 (by decide) (fun w1 => ?_) (fun w1 => ?_)
        · replace hv := hv.2 w1
          refine a_aload_n eX8_one_48 rfl ?_
          refine a_iload_n eX8_one_49 rfl ?_
          refine a_iload_n eX8_one_50 rfl ?_
          refine a_iload_n eX8_one_51 rfl ?_
          refine a_iconst (v := 0) eX8_one_52 (by decide) ?_
          refine qX8_119 rfl eX8_one_53 (Nat.le_of_ble_eq_true rfl) ?_
          refine Tr.of rfl (Nat.le_of_ble_eq_true rfl) (vs := [some (.ref (G.1 100)), some (.int v1), some (.int v2), some (.int v3), some (.int 0), none]) rfl ?_
          refine a_aload_n eX8_comes_0 rfl ?_
          refine gX8_0 eX8_comes_1 fl_X8_7 ?_
          refine a_iconst (v := 0) eX8_comes_4 (by decide) ?_
          refine a_ialdc 0 eX8_comes_5 sA101 kA101 (by decide) (by decide) ?_
          refine a_istore (vs' := [some (.ref (G.1 100)), some (.int v1), some (.int v2), some (.int v3), some (.int 0), some (.int (M 101 0))]) eX8_comes_6 rfl (Nat.le_of_ble_eq_true rfl) rfl ?_
          refine a_aload_n eX8_comes_8 rfl ?_
          refine gX8_0 eX8_comes_9 fl_X8_7 ?_
          refine a_iconst (v := 0) eX8_comes_12 (by decide) ?_
          refine a_dup2 eX8_comes_13 rfl rfl ?_
          refine a_ialdc 0 eX8_comes_14 sA101 kA101 (by decide) (by decide) ?_
          refine a_iconst (v := 1) eX8_comes_15 (by decide) ?_
          refine a_iadd eX8_comes_16 ?_
          refine a_iastc 0 eX8_comes_17 sA101 kA101 (by decide) (by decide) ?_
          refine a_aload_n eX8_comes_18 rfl ?_
          refine a_iload eX8_comes_19 rfl ?_
          refine a_iconst (v := 0) eX8_comes_21 (by decide) ?_
          refine a_iload_n eX8_comes_22 rfl ?_
          refine qX8_105 rfl eX8_comes_23 (Nat.le_of_ble_eq_true rfl) ?_
          refine Tr.of rfl (Nat.le_of_ble_eq_true rfl) (vs := [some (.ref (G.1 100)), some (.int (M 101 0)), some (.int 0), some (.int v1)]) rfl ?_
          refine a_aload_n eX8_sets_0 rfl ?_
          refine gX8_0 eX8_sets_1 fl_X8_7 ?_
          refine a_bipush (v := 10) eX8_sets_4 (by decide) ?_
          refine a_iconst (v := 4) eX8_sets_6 (by decide) ?_
          refine a_iload_n eX8_sets_7 rfl ?_
          refine a_imul eX8_sets_8 ?_
          refine a_iadd eX8_sets_9 ?_
          refine a_iload_n eX8_sets_10 rfl ?_
          refine a_iadd eX8_sets_11 ?_
          refine a_iload_n eX8_sets_12 rfl ?_
          obtain ⟨h2, hv⟩ := hv
          refine a_iast eX8_sets_13 sA101 kA101 h2 ?_
          refine a_nm (fun M3 eM3 => ?_)
          replace hv := hv M3 eM3
          refine a_vret eX8_sets_14 rfl (ret_v ?_)
          refine a_aload_n eX8_comes_26 rfl ?_
          refine a_iload eX8_comes_27 rfl ?_
          refine a_iconst (v := 1) eX8_comes_29 (by decide) ?_
          refine a_iload_n eX8_comes_30 rfl ?_
          refine qX8_105 rfl eX8_comes_31 (Nat.le_of_ble_eq_true rfl) ?_
          refine Tr.of rfl (Nat.le_of_ble_eq_true rfl) (vs := [some (.ref (G.1 100)), some (.int (M 101 0)), some (.int 1), some (.int v2)]) rfl ?_
          refine a_aload_n eX8_sets_0 rfl ?_
          refine gX8_0 eX8_sets_1 fl_X8_7 ?_
          refine a_bipush (v := 10) eX8_sets_4 (by decide) ?_
          refine a_iconst (v := 4) eX8_sets_6 (by decide) ?_
          refine a_iload_n eX8_sets_7 rfl ?_
          refine a_imul eX8_sets_8 ?_
          refine a_iadd eX8_sets_9 ?_
          refine a_iload_n eX8_sets_10 rfl ?_
          refine a_iadd eX8_sets_11 ?_
          refine a_iload_n eX8_sets_12 rfl ?_
          obtain ⟨h4, hv⟩ := hv
          refine a_iast eX8_sets_13 sA101 kA101 h4 ?_
          refine a_vret eX8_sets_14 rfl (ret_v ?_)
          refine a_aload_n eX8_comes_34 rfl ?_
          refine a_iload eX8_comes_35 rfl ?_
          refine a_iconst (v := 2) eX8_comes_37 (by decide) ?_
          refine a_iload_n eX8_comes_38 rfl ?_
          refine qX8_105 rfl eX8_comes_39 (Nat.le_of_ble_eq_true rfl) ?_
          refine Tr.of rfl (Nat.le_of_ble_eq_true rfl) (vs := [some (.ref (G.1 100)), some (.int (M 101 0)), some (.int 2), some (.int v3)]) rfl ?_
          refine a_aload_n eX8_sets_0 rfl ?_
          refine gX8_0 eX8_sets_1 fl_X8_7 ?_
          refine a_bipush (v := 10) eX8_sets_4 (by decide) ?_
          refine a_iconst (v := 4) eX8_sets_6 (by decide) ?_
          refine a_iload_n eX8_sets_7 rfl ?_
          refine a_imul eX8_sets_8 ?_
          refine a_iadd eX8_sets_9 ?_
          refine a_iload_n eX8_sets_10 rfl ?_
          refine a_iadd eX8_sets_11 ?_
          refine a_iload_n eX8_sets_12 rfl ?_
          obtain ⟨h5, hv⟩ := hv
          refine a_iast eX8_sets_13 sA101 kA101 h5 ?_
          refine a_nm (fun M6 eM6 => ?_)
          replace hv := hv M6 eM6
          refine a_vret eX8_sets_14 rfl (ret_v ?_)
          refine a_aload_n eX8_comes_42 rfl ?_
          refine a_iload eX8_comes_43 rfl ?_
          refine a_iconst (v := 3) eX8_comes_45 (by decide) ?_
          refine a_iload eX8_comes_46 rfl ?_
          refine qX8_105 rfl eX8_comes_48 (Nat.le_of_ble_eq_true rfl) ?_
          refine Tr.of rfl (Nat.le_of_ble_eq_true rfl) (vs := [some (.ref (G.1 100)), some (.int (M 101 0)), some (.int 3), some (.int 0)]) rfl ?_
          refine a_aload_n eX8_sets_0 rfl ?_
          refine gX8_0 eX8_sets_1 fl_X8_7 ?_
          refine a_bipush (v := 10) eX8_sets_4 (by decide) ?_
          refine a_iconst (v := 4) eX8_sets_6 (by decide) ?_
          refine a_iload_n eX8_sets_7 rfl ?_
          refine a_imul eX8_sets_8 ?_
          refine a_iadd eX8_sets_9 ?_
          refine a_iload_n eX8_sets_10 rfl ?_
          refine a_iadd eX8_sets_11 ?_
          refine a_iload_n eX8_sets_12 rfl ?_
          obtain ⟨h7, hv⟩ := hv
          refine a_iast eX8_sets_13 sA101 kA101 h7 ?_
          refine a_vret eX8_sets_14 rfl (ret_v ?_)
          refine a_vret eX8_comes_51 rfl (ret_v ?_)
          refine a_aload_n eX8_one_56 rfl ?_
          refine gX8_0 eX8_one_57 fl_X8_7 ?_
          refine a_iconst (v := 0) eX8_one_60 (by decide) ?_
          refine a_ialdc 0 eX8_one_61 sA101 kA101 (by decide) (by decide) ?_
          refine a_iconst (v := 1) eX8_one_62 (by decide) ?_
          refine a_isub eX8_one_63 ?_
          exact a_iret eX8_one_64 rfl rfl hv
        · replace hv := hv.1 w1
          refine a_ldc eX8_one_45 kc_X8_118 ?_
          exact a_iret eX8_one_47 rfl rfl hv
      · replace hv := (hv.1 w8).2 w9
        refine a_if_ne (tgt := 34) eX8_one_28 (by decide) (fun h => absurd h (by decide)) (fun _ => ?_)
        refine a_ldc eX8_one_31 kc_X8_117 ?_
        exact a_iret eX8_one_33 rfl rfl hv
      · replace hv := hv.2 w8
        refine a_if_ne (tgt := 34) eX8_one_28 (by decide) (fun h => absurd h (by decide)) (fun _ => ?_)
        refine a_ldc eX8_one_31 kc_X8_117 ?_
        exact a_iret eX8_one_33 rfl rfl hv
    · replace hv := (hv.1 w10).2 w11
      refine a_iret eX8_isPlace_9 rfl rfl (ret_i ?_)
      refine a_if_eq (tgt := 31) eX8_one_16 (by decide) (fun _ => ?_) (fun h => absurd h (by decide))
      refine a_ldc eX8_one_31 kc_X8_117 ?_
      exact a_iret eX8_one_33 rfl rfl hv
    · replace hv := hv.2 w10
      refine a_iret eX8_isPlace_9 rfl rfl (ret_i ?_)
      refine a_if_eq (tgt := 31) eX8_one_16 (by decide) (fun _ => ?_) (fun h => absurd h (by decide))
      refine a_ldc eX8_one_31 kc_X8_117 ?_
      exact a_iret eX8_one_33 rfl rfl hv
  · replace hv := (hv.1 w12).2 w13
    refine a_if_eq (tgt := 31) eX8_one_9 (by decide) (fun _ => ?_) (fun h => absurd h (by decide))
    refine a_ldc eX8_one_31 kc_X8_117 ?_
    exact a_iret eX8_one_33 rfl rfl hv
  · replace hv := hv.2 w12
    refine a_if_eq (tgt := 31) eX8_one_9 (by decide) (fun _ => ?_) (fun h => absurd h (by decide))
    refine a_ldc eX8_one_31 kc_X8_117 ?_
    exact a_iret eX8_one_33 rfl rfl hv
theorem tX8_way {l : Launch} {G : GT} {d : Nat} {M : Mem} {R : Option Value → Mem → Prop} {v1 : Int32} {v2 : Int32} (hv : (0 ≤ v1 → (v1 ≤ 9 → (0 ≤ v2 → (v2 ≤ 9 → (v1 = v2 → R (some (.int (-1000000001))) M) ∧ (¬ (v1 = v2) → ((M 101 3) = 14 → R (some (.int (-1000000003))) M) ∧ (¬ ((M 101 3) = 14) → vp_in (42 + (3 * (M 101 3))) 3084 ∧ ∀ M4 : Mem, M4 = um (um M 101 3 ((M 101 3) + 1)) 101 (ix (42 + (3 * (M 101 3)))) v1 → vp_in ((42 + (3 * (M 101 3))) + 1) 3084 ∧ vp_in ((42 + (3 * (M 101 3))) + 2) 3084 ∧ ∀ M7 : Mem, M7 = um (um M4 101 (ix ((42 + (3 * (M 101 3))) + 1)) v2) 101 (ix ((42 + (3 * (M 101 3))) + 2)) 1 → R (some (.int (M 101 3))) M7))) ∧ (¬ (v2 ≤ 9) → R (some (.int (-1000000001))) M)) ∧ (¬ (0 ≤ v2) → R (some (.int (-1000000001))) M)) ∧ (¬ (v1 ≤ 9) → R (some (.int (-1000000001))) M)) ∧ (¬ (0 ≤ v1) → R (some (.int (-1000000001))) M)) : Tr l G (d + 4) mX8_way [.ref (G.1 100), .int v1, .int v2] M R := by
  refine Tr.of rfl (Nat.le_of_ble_eq_true rfl) (vs := [some (.ref (G.1 100)), some (.int v1), some (.int v2), none]) rfl ?_
  refine a_iload_n eX8_way_0 rfl ?_
  refine qX8_111 rfl eX8_way_1 (Nat.le_of_ble_eq_true rfl) ?_
  refine Tr.of rfl (Nat.le_of_ble_eq_true rfl) (vs := [some (.int v1)]) rfl ?_
  refine a_iload_n eX8_isPlace_0 rfl ?_
  refine a_i2l eX8_isPlace_1 ?_
  refine a_lconsti 0 eX8_isPlace_2 (by decide) ?_
  refine a_ldc2i 9 eX8_isPlace_3 kl_X8_73 (by decide) ?_
  refine qX8_68 rfl eX8_isPlace_6 (Nat.le_of_ble_eq_true rfl) ?_
  refine in_isIn (v := v1) (lo := 0) (hi := 9) ⟨fun w10 => ⟨fun w11 => ret_i ?_, fun w11 => ret_i ?_⟩, fun w10 => ret_i ?_⟩
  · replace hv := (hv.1 w10).1 w11
    refine a_iret eX8_isPlace_9 rfl rfl (ret_i ?_)
    refine a_if_eq (tgt := 19) eX8_way_4 (by decide) (fun h => absurd h (by decide)) (fun _ => ?_)
    refine a_iload_n eX8_way_7 rfl ?_
    refine qX8_111 rfl eX8_way_8 (Nat.le_of_ble_eq_true rfl) ?_
    refine Tr.of rfl (Nat.le_of_ble_eq_true rfl) (vs := [some (.int v2)]) rfl ?_
    refine a_iload_n eX8_isPlace_0 rfl ?_
    refine a_i2l eX8_isPlace_1 ?_
    refine a_lconsti 0 eX8_isPlace_2 (by decide) ?_
    refine a_ldc2i 9 eX8_isPlace_3 kl_X8_73 (by decide) ?_
    refine qX8_68 rfl eX8_isPlace_6 (Nat.le_of_ble_eq_true rfl) ?_
    refine in_isIn (v := v2) (lo := 0) (hi := 9) ⟨fun w8 => ⟨fun w9 => ret_i ?_, fun w9 => ret_i ?_⟩, fun w8 => ret_i ?_⟩
    · replace hv := (hv.1 w8).1 w9
      refine a_iret eX8_isPlace_9 rfl rfl (ret_i ?_)
      refine a_if_eq (tgt := 19) eX8_way_11 (by decide) (fun h => absurd h (by decide)) (fun _ => ?_)
      refine a_iload_n eX8_way_14 rfl ?_
      refine a_iload_n eX8_way_15 rfl ?_
      refine a_icmp_ne (tgt := 22) eX8_way_16 (by decide) (fun w1 => ?_) (fun w1 => ?_)
      · replace hv := hv.2 w1
        refine a_aload_n eX8_way_22 rfl ?_
        refine gX8_0 eX8_way_23 fl_X8_7 ?_
        refine a_iconst (v := 3) eX8_way_26 (by decide) ?_
        refine a_ialdc 3 eX8_way_27 sA101 kA101 (by decide) (by decide) ?_
        refine a_istore_n (vs' := [some (.ref (G.1 100)), some (.int v1), some (.int v2), some (.int (M 101 3))]) eX8_way_28 rfl (Nat.le_of_ble_eq_true rfl) rfl ?_
        refine a_iload_n eX8_way_29 rfl ?_
        refine a_bipush (v := 14) eX8_way_30 (by decide) ?_
        refine a_icmp_ne (tgt := 38) eX8_way_32 (by decide) (fun w2 => ?_) (fun w2 => ?_)
        · replace hv := hv.2 w2
          refine a_aload_n eX8_way_38 rfl ?_
          refine gX8_0 eX8_way_39 fl_X8_7 ?_
          refine a_iconst (v := 3) eX8_way_42 (by decide) ?_
          refine a_dup2 eX8_way_43 rfl rfl ?_
          refine a_ialdc 3 eX8_way_44 sA101 kA101 (by decide) (by decide) ?_
          refine a_iconst (v := 1) eX8_way_45 (by decide) ?_
          refine a_iadd eX8_way_46 ?_
          refine a_iastc 3 eX8_way_47 sA101 kA101 (by decide) (by decide) ?_
          refine a_aload_n eX8_way_48 rfl ?_
          refine gX8_0 eX8_way_49 fl_X8_7 ?_
          refine a_bipush (v := 42) eX8_way_52 (by decide) ?_
          refine a_iconst (v := 3) eX8_way_54 (by decide) ?_
          refine a_iload_n eX8_way_55 rfl ?_
          refine a_imul eX8_way_56 ?_
          refine a_iadd eX8_way_57 ?_
          refine a_iload_n eX8_way_58 rfl ?_
          obtain ⟨h3, hv⟩ := hv
          refine a_iast eX8_way_59 sA101 kA101 h3 ?_
          refine a_nm (fun M4 eM4 => ?_)
          replace hv := hv M4 eM4
          refine a_aload_n eX8_way_60 rfl ?_
          refine gX8_0 eX8_way_61 fl_X8_7 ?_
          refine a_bipush (v := 42) eX8_way_64 (by decide) ?_
          refine a_iconst (v := 3) eX8_way_66 (by decide) ?_
          refine a_iload_n eX8_way_67 rfl ?_
          refine a_imul eX8_way_68 ?_
          refine a_iadd eX8_way_69 ?_
          refine a_iconst (v := 1) eX8_way_70 (by decide) ?_
          refine a_iadd eX8_way_71 ?_
          refine a_iload_n eX8_way_72 rfl ?_
          obtain ⟨h5, hv⟩ := hv
          refine a_iast eX8_way_73 sA101 kA101 h5 ?_
          refine a_aload_n eX8_way_74 rfl ?_
          refine gX8_0 eX8_way_75 fl_X8_7 ?_
          refine a_bipush (v := 42) eX8_way_78 (by decide) ?_
          refine a_iconst (v := 3) eX8_way_80 (by decide) ?_
          refine a_iload_n eX8_way_81 rfl ?_
          refine a_imul eX8_way_82 ?_
          refine a_iadd eX8_way_83 ?_
          refine a_iconst (v := 2) eX8_way_84 (by decide) ?_
          refine a_iadd eX8_way_85 ?_
          refine a_iconst (v := 1) eX8_way_86 (by decide) ?_
          obtain ⟨h6, hv⟩ := hv
          refine a_iast eX8_way_87 sA101 kA101 h6 ?_
          refine a_nm (fun M7 eM7 => ?_)
          replace hv := hv M7 eM7
          refine a_iload_n eX8_way_88 rfl ?_
          exact a_iret eX8_way_89 rfl rfl hv
        · replace hv := hv.1 w2
          refine a_ldc eX8_way_35 kc_X8_118 ?_
          exact a_iret eX8_way_37 rfl rfl hv
      · replace hv := hv.1 w1
        refine a_ldc eX8_way_19 kc_X8_117 ?_
        exact a_iret eX8_way_21 rfl rfl hv
    · replace hv := (hv.1 w8).2 w9
      refine a_iret eX8_isPlace_9 rfl rfl (ret_i ?_)
      refine a_if_eq (tgt := 19) eX8_way_11 (by decide) (fun _ => ?_) (fun h => absurd h (by decide))
      refine a_ldc eX8_way_19 kc_X8_117 ?_
      exact a_iret eX8_way_21 rfl rfl hv
    · replace hv := hv.2 w8
      refine a_iret eX8_isPlace_9 rfl rfl (ret_i ?_)
      refine a_if_eq (tgt := 19) eX8_way_11 (by decide) (fun _ => ?_) (fun h => absurd h (by decide))
      refine a_ldc eX8_way_19 kc_X8_117 ?_
      exact a_iret eX8_way_21 rfl rfl hv
  · replace hv := (hv.1 w10).2 w11
    refine a_iret eX8_isPlace_9 rfl rfl (ret_i ?_)
    refine a_if_eq (tgt := 19) eX8_way_4 (by decide) (fun _ => ?_) (fun h => absurd h (by decide))
    refine a_ldc eX8_way_19 kc_X8_117 ?_
    exact a_iret eX8_way_21 rfl rfl hv
  · replace hv := hv.2 w10
    refine a_iret eX8_isPlace_9 rfl rfl (ret_i ?_)
    refine a_if_eq (tgt := 19) eX8_way_4 (by decide) (fun _ => ?_) (fun h => absurd h (by decide))
    refine a_ldc eX8_way_19 kc_X8_117 ?_
    exact a_iret eX8_way_21 rfl rfl hv
theorem tX8_told {l : Launch} {G : GT} {d : Nat} {M : Mem} {R : Option Value → Mem → Prop} {v1 : Int32} {v2 : Int32} (hv : (0 ≤ v1 → (v1 ≤ ((M 101 0) - 1) → (0 ≤ v2 → (v2 ≤ 6 → (v2 = 4 → vp_in ((10 + (4 * v1)) + 1) 3084 ∧ Tr l G (d + 3) mX8_canRead [.ref (G.1 100), .int v1, .int (M 101 (ix ((10 + (4 * v1)) + 1)))] M (kI fun q M' => At l G (d + 4) mX8_told 63 [some (.ref (G.1 100)), none, none] [.int q] M' R)) ∧ (v2 = 5 → Tr l G (d + 3) mX8_urge [.ref (G.1 100), .int v1] M (kI fun q M' => At l G (d + 4) mX8_told 80 [none, none, none] [.int q] M' R)) ∧ (v2 = 6 → Tr l G (d + 3) mX8_worth [.ref (G.1 100), .int v1] M (kI fun q M' => At l G (d + 4) mX8_told 86 [none, none, none] [.int q] M' R)) ∧ (¬ v2 = 4 → ¬ v2 = 5 → ¬ v2 = 6 → vp_in ((10 + (4 * v1)) + v2) 3084 ∧ R (some (.int (M 101 (ix ((10 + (4 * v1)) + v2))))) M)) ∧ (¬ (v2 ≤ 6) → R (some (.int (-1000000001))) M)) ∧ (¬ (0 ≤ v2) → R (some (.int (-1000000001))) M)) ∧ (¬ (v1 ≤ ((M 101 0) - 1)) → R (some (.int (-1000000001))) M)) ∧ (¬ (0 ≤ v1) → R (some (.int (-1000000001))) M)) : Tr l G (d + 4) mX8_told [.ref (G.1 100), .int v1, .int v2] M R := by
  refine Tr.of rfl (Nat.le_of_ble_eq_true rfl) (vs := [some (.ref (G.1 100)), some (.int v1), some (.int v2)]) rfl ?_
  refine a_aload_n eX8_told_0 rfl ?_
  refine a_iload_n eX8_told_1 rfl ?_
  refine qX8_123 rfl eX8_told_2 (Nat.le_of_ble_eq_true rfl) ?_
  refine Tr.of rfl (Nat.le_of_ble_eq_true rfl) (vs := [some (.ref (G.1 100)), some (.int v1)]) rfl ?_
  refine a_iload_n eX8_isOne_0 rfl ?_
  refine a_i2l eX8_isOne_1 ?_
  refine a_lconsti 0 eX8_isOne_2 (by decide) ?_
  refine a_aload_n eX8_isOne_3 rfl ?_
  refine gX8_0 eX8_isOne_4 fl_X8_7 ?_
  refine a_iconst (v := 0) eX8_isOne_7 (by decide) ?_
  refine a_ialdc 0 eX8_isOne_8 sA101 kA101 (by decide) (by decide) ?_
  refine a_iconst (v := 1) eX8_isOne_9 (by decide) ?_
  refine a_isub eX8_isOne_10 ?_
  refine a_i2l eX8_isOne_11 ?_
  refine qX8_68 rfl eX8_isOne_12 (Nat.le_of_ble_eq_true rfl) ?_
  refine in_isIn (v := v1) (lo := 0) (hi := (M 101 0) - 1) ⟨fun w8 => ⟨fun w9 => ret_i ?_, fun w9 => ret_i ?_⟩, fun w8 => ret_i ?_⟩
  · replace hv := (hv.1 w8).1 w9
    refine a_iret eX8_isOne_15 rfl rfl (ret_i ?_)
    refine a_if_eq (tgt := 20) eX8_told_5 (by decide) (fun h => absurd h (by decide)) (fun _ => ?_)
    refine a_iload_n eX8_told_8 rfl ?_
    refine a_i2l eX8_told_9 ?_
    refine a_lconsti 0 eX8_told_10 (by decide) ?_
    refine a_ldc2i 6 eX8_told_11 kl_X8_126 (by decide) ?_
    refine qX8_68 rfl eX8_told_14 (Nat.le_of_ble_eq_true rfl) ?_
    refine in_isIn (v := v2) (lo := 0) (hi := 6) ⟨fun w6 => ⟨fun w7 => ret_i ?_, fun w7 => ret_i ?_⟩, fun w6 => ret_i ?_⟩
    · replace hv := (hv.1 w6).1 w7
      refine a_if_ne (tgt := 23) eX8_told_17 (by decide) (fun _ => ?_) (fun h => absurd h (by decide))
      refine a_iload_n eX8_told_23 rfl ?_
      by_cases w2 : v2 = 4
      · refine a_tswIn 4 (tgt := 52) eX8_told_24 w2 (by decide) (by decide) rfl (by decide) ?_
        replace hv := hv.1 w2
        refine a_aload_n eX8_told_52 rfl ?_
        refine a_iload_n eX8_told_53 rfl ?_
        refine a_aload_n eX8_told_54 rfl ?_
        refine a_iload_n eX8_told_55 rfl ?_
        refine a_iconst (v := 1) eX8_told_56 (by decide) ?_
        refine qX8_86 rfl eX8_told_57 (Nat.le_of_ble_eq_true rfl) ?_
        refine Tr.of rfl (Nat.le_of_ble_eq_true rfl) (vs := [some (.ref (G.1 100)), some (.int v1), some (.int 1)]) rfl ?_
        refine a_aload_n eX8_of_0 rfl ?_
        refine gX8_0 eX8_of_1 fl_X8_7 ?_
        refine a_bipush (v := 10) eX8_of_4 (by decide) ?_
        refine a_iconst (v := 4) eX8_of_6 (by decide) ?_
        refine a_iload_n eX8_of_7 rfl ?_
        refine a_imul eX8_of_8 ?_
        refine a_iadd eX8_of_9 ?_
        refine a_iload_n eX8_of_10 rfl ?_
        refine a_iadd eX8_of_11 ?_
        obtain ⟨h1, hv⟩ := hv
        refine a_iald eX8_of_12 sA101 kA101 h1 ?_
        refine a_iret eX8_of_13 rfl rfl (ret_i ?_)
        exact qX8_128 rfl eX8_told_60 (Nat.le_of_ble_eq_true rfl) (tr_I [true, false, false] rfl rfl hv)
      by_cases w3 : v2 = 5
      · refine a_tswIn 5 (tgt := 75) eX8_told_24 w3 (by decide) (by decide) rfl (by decide) ?_
        replace hv := hv.2.1 w3
        refine a_aload_n eX8_told_75 rfl ?_
        refine a_iload_n eX8_told_76 rfl ?_
        exact qX8_131 rfl eX8_told_77 (Nat.le_of_ble_eq_true rfl) (tr_I [false, false, false] rfl rfl hv)
      by_cases w4 : v2 = 6
      · refine a_tswIn 6 (tgt := 81) eX8_told_24 w4 (by decide) (by decide) rfl (by decide) ?_
        replace hv := hv.2.2.1 w4
        refine a_aload_n eX8_told_81 rfl ?_
        refine a_iload_n eX8_told_82 rfl ?_
        exact qX8_134 rfl eX8_told_83 (Nat.le_of_ble_eq_true rfl) (tr_I [false, false, false] rfl rfl hv)
      refine a_tswOut (tgt := 87) eX8_told_24 (by have zw2 := lv_neT (a := 4) w2 (by decide); have zw3 := lv_neT (a := 5) w3 (by decide); have zw4 := lv_neT (a := 6) w4 (by decide); omega) (by decide) ?_
      replace hv := hv.2.2.2 w2 w3 w4
      refine a_aload_n eX8_told_87 rfl ?_
      refine a_iload_n eX8_told_88 rfl ?_
      refine a_iload_n eX8_told_89 rfl ?_
      refine qX8_86 rfl eX8_told_90 (Nat.le_of_ble_eq_true rfl) ?_
      refine Tr.of rfl (Nat.le_of_ble_eq_true rfl) (vs := [some (.ref (G.1 100)), some (.int v1), some (.int v2)]) rfl ?_
      refine a_aload_n eX8_of_0 rfl ?_
      refine gX8_0 eX8_of_1 fl_X8_7 ?_
      refine a_bipush (v := 10) eX8_of_4 (by decide) ?_
      refine a_iconst (v := 4) eX8_of_6 (by decide) ?_
      refine a_iload_n eX8_of_7 rfl ?_
      refine a_imul eX8_of_8 ?_
      refine a_iadd eX8_of_9 ?_
      refine a_iload_n eX8_of_10 rfl ?_
      refine a_iadd eX8_of_11 ?_
      obtain ⟨h5, hv⟩ := hv
      refine a_iald eX8_of_12 sA101 kA101 h5 ?_
      refine a_iret eX8_of_13 rfl rfl (ret_i ?_)
      exact a_iret eX8_told_93 rfl rfl hv
    · replace hv := (hv.1 w6).2 w7
      refine a_if_ne (tgt := 23) eX8_told_17 (by decide) (fun h => absurd h (by decide)) (fun _ => ?_)
      refine a_ldc eX8_told_20 kc_X8_117 ?_
      exact a_iret eX8_told_22 rfl rfl hv
    · replace hv := hv.2 w6
      refine a_if_ne (tgt := 23) eX8_told_17 (by decide) (fun h => absurd h (by decide)) (fun _ => ?_)
      refine a_ldc eX8_told_20 kc_X8_117 ?_
      exact a_iret eX8_told_22 rfl rfl hv
  · replace hv := (hv.1 w8).2 w9
    refine a_iret eX8_isOne_15 rfl rfl (ret_i ?_)
    refine a_if_eq (tgt := 20) eX8_told_5 (by decide) (fun _ => ?_) (fun h => absurd h (by decide))
    refine a_ldc eX8_told_20 kc_X8_117 ?_
    exact a_iret eX8_told_22 rfl rfl hv
  · replace hv := hv.2 w8
    refine a_iret eX8_isOne_15 rfl rfl (ret_i ?_)
    refine a_if_eq (tgt := 20) eX8_told_5 (by decide) (fun _ => ?_) (fun h => absurd h (by decide))
    refine a_ldc eX8_told_20 kc_X8_117 ?_
    exact a_iret eX8_told_22 rfl rfl hv
theorem bX8_told_86 {l : Launch} {G : GT} {d : Nat} {M : Mem} {R : Option Value → Mem → Prop} {r : Int32} (hv : R (some (.int r)) M) : At l G (d + 4) mX8_told 86 [none, none, none] [.int r] M R := by
  exact a_iret eX8_told_86 rfl rfl hv
theorem bX8_told_80 {l : Launch} {G : GT} {d : Nat} {M : Mem} {R : Option Value → Mem → Prop} {r : Int32} (hv : R (some (.int r)) M) : At l G (d + 4) mX8_told 80 [none, none, none] [.int r] M R := by
  exact a_iret eX8_told_80 rfl rfl hv
theorem bX8_told_63 {l : Launch} {G : GT} {d : Nat} {M : Mem} {R : Option Value → Mem → Prop} {r : Int32} (hv : R (some (.int (r &&& (((1 : Int32) <<< ((M 101 3) &&& 31)) - 1)))) M) : At l G (d + 4) mX8_told 63 [some (.ref (G.1 100)), none, none] [.int r] M R := by
  refine a_iconst (v := 1) eX8_told_63 (by decide) ?_
  refine a_aload_n eX8_told_64 rfl ?_
  refine gX8_0 eX8_told_65 fl_X8_7 ?_
  refine a_iconst (v := 3) eX8_told_68 (by decide) ?_
  refine a_ialdc 3 eX8_told_69 sA101 kA101 (by decide) (by decide) ?_
  refine a_ishl eX8_told_70 ?_
  refine a_iconst (v := 1) eX8_told_71 (by decide) ?_
  refine a_isub eX8_told_72 ?_
  refine a_iand eX8_told_73 ?_
  exact a_iret eX8_told_74 rfl rfl hv
theorem tX8_as {l : Launch} {G : GT} {d : Nat} {M : Mem} {R : Option Value → Mem → Prop} {v1 : Int32} {v2 : Int32} (hv : (0 ≤ v1 → (v1 ≤ ((M 101 0) - 1) → (0 ≤ v2 → (v2 ≤ 5 → vp_in ((10 + (4 * v1)) + 0) 3084 ∧ ((M 101 (ix ((10 + (4 * v1)) + 0))) = v2 → vp_in ((10 + (4 * v1)) + 1) 3084 ∧ R (some (.int (M 101 (ix ((10 + (4 * v1)) + 1))))) M) ∧ (¬ ((M 101 (ix ((10 + (4 * v1)) + 0))) = v2) → (v2 = 0 → vp_in ((10 + (4 * v1)) + 1) 3084 ∧ R (some (.int (M 101 (ix ((10 + (4 * v1)) + 1))))) M) ∧ (¬ (v2 = 0) → (v2 = 1 → ((M 101 (ix ((10 + (4 * v1)) + 0))) = 3 → vp_in ((10 + (4 * v1)) + 1) 3084 ∧ R (some (.int (M 101 (ix ((10 + (4 * v1)) + 1))))) M) ∧ (¬ ((M 101 (ix ((10 + (4 * v1)) + 0))) = 3) → (v2 = 2 → ((M 101 (ix ((10 + (4 * v1)) + 0))) = 4 → vp_in ((10 + (4 * v1)) + 1) 3084 ∧ R (some (.int (M 101 (ix ((10 + (4 * v1)) + 1))))) M) ∧ (¬ ((M 101 (ix ((10 + (4 * v1)) + 0))) = 4) → R (some (.int (-1000000012))) M)) ∧ (¬ (v2 = 2) → R (some (.int (-1000000012))) M))) ∧ (¬ (v2 = 1) → (v2 = 2 → ((M 101 (ix ((10 + (4 * v1)) + 0))) = 4 → vp_in ((10 + (4 * v1)) + 1) 3084 ∧ R (some (.int (M 101 (ix ((10 + (4 * v1)) + 1))))) M) ∧ (¬ ((M 101 (ix ((10 + (4 * v1)) + 0))) = 4) → R (some (.int (-1000000012))) M)) ∧ (¬ (v2 = 2) → R (some (.int (-1000000012))) M))))) ∧ (¬ (v2 ≤ 5) → R (some (.int (-1000000001))) M)) ∧ (¬ (0 ≤ v2) → R (some (.int (-1000000001))) M)) ∧ (¬ (v1 ≤ ((M 101 0) - 1)) → R (some (.int (-1000000001))) M)) ∧ (¬ (0 ≤ v1) → R (some (.int (-1000000001))) M)) : Tr l G (d + 4) mX8_as [.ref (G.1 100), .int v1, .int v2] M R := by
  refine Tr.of rfl (Nat.le_of_ble_eq_true rfl) (vs := [some (.ref (G.1 100)), some (.int v1), some (.int v2)]) rfl ?_
  refine a_aload_n eX8_as_0 rfl ?_
  refine a_iload_n eX8_as_1 rfl ?_
  refine qX8_123 rfl eX8_as_2 (Nat.le_of_ble_eq_true rfl) ?_
  refine Tr.of rfl (Nat.le_of_ble_eq_true rfl) (vs := [some (.ref (G.1 100)), some (.int v1)]) rfl ?_
  refine a_iload_n eX8_isOne_0 rfl ?_
  refine a_i2l eX8_isOne_1 ?_
  refine a_lconsti 0 eX8_isOne_2 (by decide) ?_
  refine a_aload_n eX8_isOne_3 rfl ?_
  refine gX8_0 eX8_isOne_4 fl_X8_7 ?_
  refine a_iconst (v := 0) eX8_isOne_7 (by decide) ?_
  refine a_ialdc 0 eX8_isOne_8 sA101 kA101 (by decide) (by decide) ?_
  refine a_iconst (v := 1) eX8_isOne_9 (by decide) ?_
  refine a_isub eX8_isOne_10 ?_
  refine a_i2l eX8_isOne_11 ?_
  refine qX8_68 rfl eX8_isOne_12 (Nat.le_of_ble_eq_true rfl) ?_
  refine in_isIn (v := v1) (lo := 0) (hi := (M 101 0) - 1) ⟨fun w17 => ⟨fun w18 => ret_i ?_, fun w18 => ret_i ?_⟩, fun w17 => ret_i ?_⟩
  · replace hv := (hv.1 w17).1 w18
    refine a_iret eX8_isOne_15 rfl rfl (ret_i ?_)
    refine a_if_eq (tgt := 20) eX8_as_5 (by decide) (fun h => absurd h (by decide)) (fun _ => ?_)
    refine a_iload_n eX8_as_8 rfl ?_
    refine a_i2l eX8_as_9 ?_
    refine a_lconsti 0 eX8_as_10 (by decide) ?_
    refine a_ldc2i 5 eX8_as_11 kl_X8_109 (by decide) ?_
    refine qX8_68 rfl eX8_as_14 (Nat.le_of_ble_eq_true rfl) ?_
    refine in_isIn (v := v2) (lo := 0) (hi := 5) ⟨fun w15 => ⟨fun w16 => ret_i ?_, fun w16 => ret_i ?_⟩, fun w15 => ret_i ?_⟩
    · replace hv := (hv.1 w15).1 w16
      refine a_if_ne (tgt := 23) eX8_as_17 (by decide) (fun _ => ?_) (fun h => absurd h (by decide))
      refine a_aload_n eX8_as_23 rfl ?_
      refine a_iload_n eX8_as_24 rfl ?_
      refine a_iconst (v := 0) eX8_as_25 (by decide) ?_
      refine qX8_86 rfl eX8_as_26 (Nat.le_of_ble_eq_true rfl) ?_
      refine Tr.of rfl (Nat.le_of_ble_eq_true rfl) (vs := [some (.ref (G.1 100)), some (.int v1), some (.int 0)]) rfl ?_
      refine a_aload_n eX8_of_0 rfl ?_
      refine gX8_0 eX8_of_1 fl_X8_7 ?_
      refine a_bipush (v := 10) eX8_of_4 (by decide) ?_
      refine a_iconst (v := 4) eX8_of_6 (by decide) ?_
      refine a_iload_n eX8_of_7 rfl ?_
      refine a_imul eX8_of_8 ?_
      refine a_iadd eX8_of_9 ?_
      refine a_iload_n eX8_of_10 rfl ?_
      refine a_iadd eX8_of_11 ?_
      obtain ⟨h1, hv⟩ := hv
      refine a_iald eX8_of_12 sA101 kA101 h1 ?_
      refine a_iret eX8_of_13 rfl rfl (ret_i ?_)
      refine a_iload_n eX8_as_29 rfl ?_
      refine qX8_137 rfl eX8_as_30 (Nat.le_of_ble_eq_true rfl) ?_
      refine Tr.of rfl (Nat.le_of_ble_eq_true rfl) (vs := [some (.int (M 101 (ix ((10 + (4 * v1)) + 0)))), some (.int v2)]) rfl ?_
      refine a_iload_n eX8_isOf_0 rfl ?_
      refine a_iload_n eX8_isOf_1 rfl ?_
      refine a_icmp_eq (tgt := 29) eX8_isOf_2 (by decide) (fun w2 => ?_) (fun w2 => ?_)
      · replace hv := hv.1 w2
        refine a_iconst (v := 1) eX8_isOf_29 (by decide) ?_
        refine a_goto (tgt := 34) eX8_isOf_30 (by decide) ?_
        refine a_iret eX8_isOf_34 rfl rfl (ret_i ?_)
        refine a_if_eq (tgt := 45) eX8_as_33 (by decide) (fun h => absurd h (by decide)) (fun _ => ?_)
        refine a_aload_n eX8_as_36 rfl ?_
        refine a_iload_n eX8_as_37 rfl ?_
        refine a_iconst (v := 1) eX8_as_38 (by decide) ?_
        refine qX8_86 rfl eX8_as_39 (Nat.le_of_ble_eq_true rfl) ?_
        refine Tr.of rfl (Nat.le_of_ble_eq_true rfl) (vs := [some (.ref (G.1 100)), some (.int v1), some (.int 1)]) rfl ?_
        refine a_aload_n eX8_of_0 rfl ?_
        refine gX8_0 eX8_of_1 fl_X8_7 ?_
        refine a_bipush (v := 10) eX8_of_4 (by decide) ?_
        refine a_iconst (v := 4) eX8_of_6 (by decide) ?_
        refine a_iload_n eX8_of_7 rfl ?_
        refine a_imul eX8_of_8 ?_
        refine a_iadd eX8_of_9 ?_
        refine a_iload_n eX8_of_10 rfl ?_
        refine a_iadd eX8_of_11 ?_
        obtain ⟨h3, hv⟩ := hv
        refine a_iald eX8_of_12 sA101 kA101 h3 ?_
        refine a_iret eX8_of_13 rfl rfl (ret_i ?_)
        refine a_goto (tgt := 47) eX8_as_42 (by decide) ?_
        exact a_iret eX8_as_47 rfl rfl hv
      · replace hv := hv.2 w2
        refine a_iload_n eX8_isOf_5 rfl ?_
        refine a_if_eq (tgt := 29) eX8_isOf_6 (by decide) (fun w4 => ?_) (fun w4 => ?_)
        · replace hv := hv.1 w4
          refine a_iconst (v := 1) eX8_isOf_29 (by decide) ?_
          refine a_goto (tgt := 34) eX8_isOf_30 (by decide) ?_
          refine a_iret eX8_isOf_34 rfl rfl (ret_i ?_)
          refine a_if_eq (tgt := 45) eX8_as_33 (by decide) (fun h => absurd h (by decide)) (fun _ => ?_)
          refine a_aload_n eX8_as_36 rfl ?_
          refine a_iload_n eX8_as_37 rfl ?_
          refine a_iconst (v := 1) eX8_as_38 (by decide) ?_
          refine qX8_86 rfl eX8_as_39 (Nat.le_of_ble_eq_true rfl) ?_
          refine Tr.of rfl (Nat.le_of_ble_eq_true rfl) (vs := [some (.ref (G.1 100)), some (.int v1), some (.int 1)]) rfl ?_
          refine a_aload_n eX8_of_0 rfl ?_
          refine gX8_0 eX8_of_1 fl_X8_7 ?_
          refine a_bipush (v := 10) eX8_of_4 (by decide) ?_
          refine a_iconst (v := 4) eX8_of_6 (by decide) ?_
          refine a_iload_n eX8_of_7 rfl ?_
          refine a_imul eX8_of_8 ?_
          refine a_iadd eX8_of_9 ?_
          refine a_iload_n eX8_of_10 rfl ?_
          refine a_iadd eX8_of_11 ?_
          obtain ⟨h5, hv⟩ := hv
          refine a_iald eX8_of_12 sA101 kA101 h5 ?_
          refine a_iret eX8_of_13 rfl rfl (ret_i ?_)
          refine a_goto (tgt := 47) eX8_as_42 (by decide) ?_
          exact a_iret eX8_as_47 rfl rfl hv
        · replace hv := hv.2 w4
          refine a_iload_n eX8_isOf_9 rfl ?_
          refine a_iconst (v := 1) eX8_isOf_10 (by decide) ?_
          refine a_icmp_ne (tgt := 19) eX8_isOf_11 (by decide) (fun w6 => ?_) (fun w6 => ?_)
          · replace hv := hv.2 w6
            refine a_iload_n eX8_isOf_19 rfl ?_
            refine a_iconst (v := 2) eX8_isOf_20 (by decide) ?_
            refine a_icmp_ne (tgt := 33) eX8_isOf_21 (by decide) (fun w7 => ?_) (fun w7 => ?_)
            · replace hv := hv.2 w7
              refine a_iconst (v := 0) eX8_isOf_33 (by decide) ?_
              refine a_iret eX8_isOf_34 rfl rfl (ret_i ?_)
              refine a_if_eq (tgt := 45) eX8_as_33 (by decide) (fun _ => ?_) (fun h => absurd h (by decide))
              refine a_ldc eX8_as_45 kc_X8_140 ?_
              exact a_iret eX8_as_47 rfl rfl hv
            · replace hv := hv.1 w7
              refine a_iload_n eX8_isOf_24 rfl ?_
              refine a_iconst (v := 4) eX8_isOf_25 (by decide) ?_
              refine a_icmp_ne (tgt := 33) eX8_isOf_26 (by decide) (fun w8 => ?_) (fun w8 => ?_)
              · replace hv := hv.2 w8
                refine a_iconst (v := 0) eX8_isOf_33 (by decide) ?_
                refine a_iret eX8_isOf_34 rfl rfl (ret_i ?_)
                refine a_if_eq (tgt := 45) eX8_as_33 (by decide) (fun _ => ?_) (fun h => absurd h (by decide))
                refine a_ldc eX8_as_45 kc_X8_140 ?_
                exact a_iret eX8_as_47 rfl rfl hv
              · replace hv := hv.1 w8
                refine a_iconst (v := 1) eX8_isOf_29 (by decide) ?_
                refine a_goto (tgt := 34) eX8_isOf_30 (by decide) ?_
                refine a_iret eX8_isOf_34 rfl rfl (ret_i ?_)
                refine a_if_eq (tgt := 45) eX8_as_33 (by decide) (fun h => absurd h (by decide)) (fun _ => ?_)
                refine a_aload_n eX8_as_36 rfl ?_
                refine a_iload_n eX8_as_37 rfl ?_
                refine a_iconst (v := 1) eX8_as_38 (by decide) ?_
                refine qX8_86 rfl eX8_as_39 (Nat.le_of_ble_eq_true rfl) ?_
                refine Tr.of rfl (Nat.le_of_ble_eq_true rfl) (vs := [some (.ref (G.1 100)), some (.int v1), some (.int 1)]) rfl ?_
                refine a_aload_n eX8_of_0 rfl ?_
                refine gX8_0 eX8_of_1 fl_X8_7 ?_
                refine a_bipush (v := 10) eX8_of_4 (by decide) ?_
                refine a_iconst (v := 4) eX8_of_6 (by decide) ?_
                refine a_iload_n eX8_of_7 rfl ?_
                refine a_imul eX8_of_8 ?_
                refine a_iadd eX8_of_9 ?_
                refine a_iload_n eX8_of_10 rfl ?_
                refine a_iadd eX8_of_11 ?_
                obtain ⟨h9, hv⟩ := hv
                refine a_iald eX8_of_12 sA101 kA101 h9 ?_
                refine a_iret eX8_of_13 rfl rfl (ret_i ?_)
                refine a_goto (tgt := 47) eX8_as_42 (by decide) ?_
                exact a_iret eX8_as_47 rfl rfl hv
          · replace hv := hv.1 w6
            refine a_iload_n eX8_isOf_14 rfl ?_
            refine a_iconst (v := 3) eX8_isOf_15 (by decide) ?_
            refine a_icmp_eq (tgt := 29) eX8_isOf_16 (by decide) (fun w10 => ?_) (fun w10 => ?_)
            · replace hv := hv.1 w10
              refine a_iconst (v := 1) eX8_isOf_29 (by decide) ?_
              refine a_goto (tgt := 34) eX8_isOf_30 (by decide) ?_
              refine a_iret eX8_isOf_34 rfl rfl (ret_i ?_)
              refine a_if_eq (tgt := 45) eX8_as_33 (by decide) (fun h => absurd h (by decide)) (fun _ => ?_)
              refine a_aload_n eX8_as_36 rfl ?_
              refine a_iload_n eX8_as_37 rfl ?_
              refine a_iconst (v := 1) eX8_as_38 (by decide) ?_
              refine qX8_86 rfl eX8_as_39 (Nat.le_of_ble_eq_true rfl) ?_
              refine Tr.of rfl (Nat.le_of_ble_eq_true rfl) (vs := [some (.ref (G.1 100)), some (.int v1), some (.int 1)]) rfl ?_
              refine a_aload_n eX8_of_0 rfl ?_
              refine gX8_0 eX8_of_1 fl_X8_7 ?_
              refine a_bipush (v := 10) eX8_of_4 (by decide) ?_
              refine a_iconst (v := 4) eX8_of_6 (by decide) ?_
              refine a_iload_n eX8_of_7 rfl ?_
              refine a_imul eX8_of_8 ?_
              refine a_iadd eX8_of_9 ?_
              refine a_iload_n eX8_of_10 rfl ?_
              refine a_iadd eX8_of_11 ?_
              obtain ⟨h11, hv⟩ := hv
              refine a_iald eX8_of_12 sA101 kA101 h11 ?_
              refine a_iret eX8_of_13 rfl rfl (ret_i ?_)
              refine a_goto (tgt := 47) eX8_as_42 (by decide) ?_
              exact a_iret eX8_as_47 rfl rfl hv
            · replace hv := hv.2 w10
              refine a_iload_n eX8_isOf_19 rfl ?_
              refine a_iconst (v := 2) eX8_isOf_20 (by decide) ?_
              refine a_icmp_ne (tgt := 33) eX8_isOf_21 (by decide) (fun w12 => ?_) (fun w12 => ?_)
              · replace hv := hv.2 w12
                refine a_iconst (v := 0) eX8_isOf_33 (by decide) ?_
                refine a_iret eX8_isOf_34 rfl rfl (ret_i ?_)
                refine a_if_eq (tgt := 45) eX8_as_33 (by decide) (fun _ => ?_) (fun h => absurd h (by decide))
                refine a_ldc eX8_as_45 kc_X8_140 ?_
                exact a_iret eX8_as_47 rfl rfl hv
              · replace hv := hv.1 w12
                refine a_iload_n eX8_isOf_24 rfl ?_
                refine a_iconst (v := 4) eX8_isOf_25 (by decide) ?_
                refine a_icmp_ne (tgt := 33) eX8_isOf_26 (by decide) (fun w13 => ?_) (fun w13 => ?_)
                · replace hv := hv.2 w13
                  refine a_iconst (v := 0) eX8_isOf_33 (by decide) ?_
                  refine a_iret eX8_isOf_34 rfl rfl (ret_i ?_)
                  refine a_if_eq (tgt := 45) eX8_as_33 (by decide) (fun _ => ?_) (fun h => absurd h (by decide))
                  refine a_ldc eX8_as_45 kc_X8_140 ?_
                  exact a_iret eX8_as_47 rfl rfl hv
                · replace hv := hv.1 w13
                  refine a_iconst (v := 1) eX8_isOf_29 (by decide) ?_
                  refine a_goto (tgt := 34) eX8_isOf_30 (by decide) ?_
                  refine a_iret eX8_isOf_34 rfl rfl (ret_i ?_)
                  refine a_if_eq (tgt := 45) eX8_as_33 (by decide) (fun h => absurd h (by decide)) (fun _ => ?_)
                  refine a_aload_n eX8_as_36 rfl ?_
                  refine a_iload_n eX8_as_37 rfl ?_
                  refine a_iconst (v := 1) eX8_as_38 (by decide) ?_
                  refine qX8_86 rfl eX8_as_39 (Nat.le_of_ble_eq_true rfl) ?_
                  refine Tr.of rfl (Nat.le_of_ble_eq_true rfl) (vs := [some (.ref (G.1 100)), some (.int v1), some (.int 1)]) rfl ?_
                  refine a_aload_n eX8_of_0 rfl ?_
                  refine gX8_0 eX8_of_1 fl_X8_7 ?_
                  refine a_bipush (v := 10) eX8_of_4 (by decide) ?_
                  refine a_iconst (v := 4) eX8_of_6 (by decide) ?_
                  refine a_iload_n eX8_of_7 rfl ?_
                  refine a_imul eX8_of_8 ?_
                  refine a_iadd eX8_of_9 ?_
                  refine a_iload_n eX8_of_10 rfl ?_
                  refine a_iadd eX8_of_11 ?_
                  obtain ⟨h14, hv⟩ := hv
                  refine a_iald eX8_of_12 sA101 kA101 h14 ?_
                  refine a_iret eX8_of_13 rfl rfl (ret_i ?_)
                  refine a_goto (tgt := 47) eX8_as_42 (by decide) ?_
                  exact a_iret eX8_as_47 rfl rfl hv
    · replace hv := (hv.1 w15).2 w16
      refine a_if_ne (tgt := 23) eX8_as_17 (by decide) (fun h => absurd h (by decide)) (fun _ => ?_)
      refine a_ldc eX8_as_20 kc_X8_117 ?_
      exact a_iret eX8_as_22 rfl rfl hv
    · replace hv := hv.2 w15
      refine a_if_ne (tgt := 23) eX8_as_17 (by decide) (fun h => absurd h (by decide)) (fun _ => ?_)
      refine a_ldc eX8_as_20 kc_X8_117 ?_
      exact a_iret eX8_as_22 rfl rfl hv
  · replace hv := (hv.1 w17).2 w18
    refine a_iret eX8_isOne_15 rfl rfl (ret_i ?_)
    refine a_if_eq (tgt := 20) eX8_as_5 (by decide) (fun _ => ?_) (fun h => absurd h (by decide))
    refine a_ldc eX8_as_20 kc_X8_117 ?_
    exact a_iret eX8_as_22 rfl rfl hv
  · replace hv := hv.2 w17
    refine a_iret eX8_isOne_15 rfl rfl (ret_i ?_)
    refine a_if_eq (tgt := 20) eX8_as_5 (by decide) (fun _ => ?_) (fun h => absurd h (by decide))
    refine a_ldc eX8_as_20 kc_X8_117 ?_
    exact a_iret eX8_as_22 rfl rfl hv
theorem tX8_turns {l : Launch} {G : GT} {d : Nat} {M : Mem} {R : Option Value → Mem → Prop} {v1 : Int32} {v2 : Int32} (hv : (0 ≤ v1 → (v1 ≤ ((M 101 0) - 1) → (0 ≤ v2 → (v2 ≤ 5 → vp_in (10 + (4 * v1)) 3084 ∧ vp_in (10 + (4 * v1)) 3084 ∧ R (some (.int (M 101 (ix (10 + (4 * v1)))))) (um M 101 (ix (10 + (4 * v1))) v2)) ∧ (¬ (v2 ≤ 5) → R (some (.int (-1000000001))) M)) ∧ (¬ (0 ≤ v2) → R (some (.int (-1000000001))) M)) ∧ (¬ (v1 ≤ ((M 101 0) - 1)) → R (some (.int (-1000000001))) M)) ∧ (¬ (0 ≤ v1) → R (some (.int (-1000000001))) M)) : Tr l G (d + 4) mX8_turns [.ref (G.1 100), .int v1, .int v2] M R := by
  refine Tr.of rfl (Nat.le_of_ble_eq_true rfl) (vs := [some (.ref (G.1 100)), some (.int v1), some (.int v2)]) rfl ?_
  refine a_aload_n eX8_turns_0 rfl ?_
  refine a_iload_n eX8_turns_1 rfl ?_
  refine qX8_123 rfl eX8_turns_2 (Nat.le_of_ble_eq_true rfl) ?_
  refine Tr.of rfl (Nat.le_of_ble_eq_true rfl) (vs := [some (.ref (G.1 100)), some (.int v1)]) rfl ?_
  refine a_iload_n eX8_isOne_0 rfl ?_
  refine a_i2l eX8_isOne_1 ?_
  refine a_lconsti 0 eX8_isOne_2 (by decide) ?_
  refine a_aload_n eX8_isOne_3 rfl ?_
  refine gX8_0 eX8_isOne_4 fl_X8_7 ?_
  refine a_iconst (v := 0) eX8_isOne_7 (by decide) ?_
  refine a_ialdc 0 eX8_isOne_8 sA101 kA101 (by decide) (by decide) ?_
  refine a_iconst (v := 1) eX8_isOne_9 (by decide) ?_
  refine a_isub eX8_isOne_10 ?_
  refine a_i2l eX8_isOne_11 ?_
  refine qX8_68 rfl eX8_isOne_12 (Nat.le_of_ble_eq_true rfl) ?_
  refine in_isIn (v := v1) (lo := 0) (hi := (M 101 0) - 1) ⟨fun w5 => ⟨fun w6 => ret_i ?_, fun w6 => ret_i ?_⟩, fun w5 => ret_i ?_⟩
  · replace hv := (hv.1 w5).1 w6
    refine a_iret eX8_isOne_15 rfl rfl (ret_i ?_)
    refine a_if_eq (tgt := 34) eX8_turns_5 (by decide) (fun h => absurd h (by decide)) (fun _ => ?_)
    refine a_iload_n eX8_turns_8 rfl ?_
    refine a_i2l eX8_turns_9 ?_
    refine a_lconsti 0 eX8_turns_10 (by decide) ?_
    refine a_ldc2i 5 eX8_turns_11 kl_X8_109 (by decide) ?_
    refine qX8_68 rfl eX8_turns_14 (Nat.le_of_ble_eq_true rfl) ?_
    refine in_isIn (v := v2) (lo := 0) (hi := 5) ⟨fun w3 => ⟨fun w4 => ret_i ?_, fun w4 => ret_i ?_⟩, fun w3 => ret_i ?_⟩
    · replace hv := (hv.1 w3).1 w4
      refine a_if_eq (tgt := 34) eX8_turns_17 (by decide) (fun h => absurd h (by decide)) (fun _ => ?_)
      refine a_aload_n eX8_turns_20 rfl ?_
      refine a_bipush (v := 10) eX8_turns_21 (by decide) ?_
      refine a_iconst (v := 4) eX8_turns_23 (by decide) ?_
      refine a_iload_n eX8_turns_24 rfl ?_
      refine a_imul eX8_turns_25 ?_
      refine a_iadd eX8_turns_26 ?_
      refine a_iload_n eX8_turns_27 rfl ?_
      refine qX8_141 rfl eX8_turns_28 (Nat.le_of_ble_eq_true rfl) ?_
      refine Tr.of rfl (Nat.le_of_ble_eq_true rfl) (vs := [some (.ref (G.1 100)), some (.int (10 + (4 * v1))), some (.int v2), none]) rfl ?_
      refine a_aload_n eX8_changes_0 rfl ?_
      refine gX8_0 eX8_changes_1 fl_X8_7 ?_
      refine a_iload_n eX8_changes_4 rfl ?_
      obtain ⟨h1, hv⟩ := hv
      refine a_iald eX8_changes_5 sA101 kA101 h1 ?_
      refine a_istore_n (vs' := [some (.ref (G.1 100)), some (.int (10 + (4 * v1))), some (.int v2), some (.int (M 101 (ix (10 + (4 * v1)))))]) eX8_changes_6 rfl (Nat.le_of_ble_eq_true rfl) rfl ?_
      refine a_aload_n eX8_changes_7 rfl ?_
      refine gX8_0 eX8_changes_8 fl_X8_7 ?_
      refine a_iload_n eX8_changes_11 rfl ?_
      refine a_iload_n eX8_changes_12 rfl ?_
      obtain ⟨h2, hv⟩ := hv
      refine a_iast eX8_changes_13 sA101 kA101 h2 ?_
      refine a_iload_n eX8_changes_14 rfl ?_
      refine a_iret eX8_changes_15 rfl rfl (ret_i ?_)
      refine a_goto (tgt := 36) eX8_turns_31 (by decide) ?_
      exact a_iret eX8_turns_36 rfl rfl hv
    · replace hv := (hv.1 w3).2 w4
      refine a_if_eq (tgt := 34) eX8_turns_17 (by decide) (fun _ => ?_) (fun h => absurd h (by decide))
      refine a_ldc eX8_turns_34 kc_X8_117 ?_
      exact a_iret eX8_turns_36 rfl rfl hv
    · replace hv := hv.2 w3
      refine a_if_eq (tgt := 34) eX8_turns_17 (by decide) (fun _ => ?_) (fun h => absurd h (by decide))
      refine a_ldc eX8_turns_34 kc_X8_117 ?_
      exact a_iret eX8_turns_36 rfl rfl hv
  · replace hv := (hv.1 w5).2 w6
    refine a_iret eX8_isOne_15 rfl rfl (ret_i ?_)
    refine a_if_eq (tgt := 34) eX8_turns_5 (by decide) (fun _ => ?_) (fun h => absurd h (by decide))
    refine a_ldc eX8_turns_34 kc_X8_117 ?_
    exact a_iret eX8_turns_36 rfl rfl hv
  · replace hv := hv.2 w5
    refine a_iret eX8_isOne_15 rfl rfl (ret_i ?_)
    refine a_if_eq (tgt := 34) eX8_turns_5 (by decide) (fun _ => ?_) (fun h => absurd h (by decide))
    refine a_ldc eX8_turns_34 kc_X8_117 ?_
    exact a_iret eX8_turns_36 rfl rfl hv
theorem tX8_set {l : Launch} {G : GT} {d : Nat} {M : Mem} {R : Option Value → Mem → Prop} {v1 : Int32} {v2 : Int32} {v3 : Int32} (hv : (0 ≤ v1 → (v1 ≤ ((M 101 0) - 1) → (1 ≤ v2 → (v2 ≤ 2 → (v2 = 1 → (0 ≤ v3 → (v3 ≤ 9 → vp_in ((10 + (4 * v1)) + v2) 3084 ∧ vp_in ((10 + (4 * v1)) + v2) 3084 ∧ R (some (.int (M 101 (ix ((10 + (4 * v1)) + v2))))) (um M 101 (ix ((10 + (4 * v1)) + v2)) v3)) ∧ (¬ (v3 ≤ 9) → R (some (.int (-1000000001))) M)) ∧ (¬ (0 ≤ v3) → R (some (.int (-1000000001))) M)) ∧ (¬ (v2 = 1) → (0 ≤ v3 → (v3 ≤ 99 → vp_in ((10 + (4 * v1)) + v2) 3084 ∧ vp_in ((10 + (4 * v1)) + v2) 3084 ∧ R (some (.int (M 101 (ix ((10 + (4 * v1)) + v2))))) (um M 101 (ix ((10 + (4 * v1)) + v2)) v3)) ∧ (¬ (v3 ≤ 99) → R (some (.int (-1000000001))) M)) ∧ (¬ (0 ≤ v3) → R (some (.int (-1000000001))) M))) ∧ (¬ (v2 ≤ 2) → R (some (.int (-1000000001))) M)) ∧ (¬ (1 ≤ v2) → R (some (.int (-1000000001))) M)) ∧ (¬ (v1 ≤ ((M 101 0) - 1)) → R (some (.int (-1000000001))) M)) ∧ (¬ (0 ≤ v1) → R (some (.int (-1000000001))) M)) : Tr l G (d + 4) mX8_set [.ref (G.1 100), .int v1, .int v2, .int v3] M R := by
  refine Tr.of rfl (Nat.le_of_ble_eq_true rfl) (vs := [some (.ref (G.1 100)), some (.int v1), some (.int v2), some (.int v3)]) rfl ?_
  refine a_aload_n eX8_set_0 rfl ?_
  refine a_iload_n eX8_set_1 rfl ?_
  refine qX8_123 rfl eX8_set_2 (Nat.le_of_ble_eq_true rfl) ?_
  refine Tr.of rfl (Nat.le_of_ble_eq_true rfl) (vs := [some (.ref (G.1 100)), some (.int v1)]) rfl ?_
  refine a_iload_n eX8_isOne_0 rfl ?_
  refine a_i2l eX8_isOne_1 ?_
  refine a_lconsti 0 eX8_isOne_2 (by decide) ?_
  refine a_aload_n eX8_isOne_3 rfl ?_
  refine gX8_0 eX8_isOne_4 fl_X8_7 ?_
  refine a_iconst (v := 0) eX8_isOne_7 (by decide) ?_
  refine a_ialdc 0 eX8_isOne_8 sA101 kA101 (by decide) (by decide) ?_
  refine a_iconst (v := 1) eX8_isOne_9 (by decide) ?_
  refine a_isub eX8_isOne_10 ?_
  refine a_i2l eX8_isOne_11 ?_
  refine qX8_68 rfl eX8_isOne_12 (Nat.le_of_ble_eq_true rfl) ?_
  refine in_isIn (v := v1) (lo := 0) (hi := (M 101 0) - 1) ⟨fun w12 => ⟨fun w13 => ret_i ?_, fun w13 => ret_i ?_⟩, fun w12 => ret_i ?_⟩
  · replace hv := (hv.1 w12).1 w13
    refine a_iret eX8_isOne_15 rfl rfl (ret_i ?_)
    refine a_if_eq (tgt := 43) eX8_set_5 (by decide) (fun h => absurd h (by decide)) (fun _ => ?_)
    refine a_iload_n eX8_set_8 rfl ?_
    refine a_i2l eX8_set_9 ?_
    refine a_lconsti 1 eX8_set_10 (by decide) ?_
    refine a_ldc2i 2 eX8_set_11 kl_X8_144 (by decide) ?_
    refine qX8_68 rfl eX8_set_14 (Nat.le_of_ble_eq_true rfl) ?_
    refine in_isIn (v := v2) (lo := 1) (hi := 2) ⟨fun w10 => ⟨fun w11 => ret_i ?_, fun w11 => ret_i ?_⟩, fun w10 => ret_i ?_⟩
    · replace hv := (hv.1 w10).1 w11
      refine a_if_eq (tgt := 43) eX8_set_17 (by decide) (fun h => absurd h (by decide)) (fun _ => ?_)
      refine a_iload_n eX8_set_20 rfl ?_
      refine a_i2l eX8_set_21 ?_
      refine a_lconsti 0 eX8_set_22 (by decide) ?_
      refine a_iload_n eX8_set_23 rfl ?_
      refine a_iconst (v := 1) eX8_set_24 (by decide) ?_
      refine a_icmp_ne (tgt := 34) eX8_set_25 (by decide) (fun w1 => ?_) (fun w1 => ?_)
      · replace hv := hv.2 w1
        refine a_ldc2i 99 eX8_set_34 kl_X8_115 (by decide) ?_
        refine qX8_68 rfl eX8_set_37 (Nat.le_of_ble_eq_true rfl) ?_
        refine in_isIn (v := v3) (lo := 0) (hi := 99) ⟨fun w4 => ⟨fun w5 => ret_i ?_, fun w5 => ret_i ?_⟩, fun w4 => ret_i ?_⟩
        · replace hv := (hv.1 w4).1 w5
          refine a_if_ne (tgt := 46) eX8_set_40 (by decide) (fun _ => ?_) (fun h => absurd h (by decide))
          refine a_aload_n eX8_set_46 rfl ?_
          refine a_bipush (v := 10) eX8_set_47 (by decide) ?_
          refine a_iconst (v := 4) eX8_set_49 (by decide) ?_
          refine a_iload_n eX8_set_50 rfl ?_
          refine a_imul eX8_set_51 ?_
          refine a_iadd eX8_set_52 ?_
          refine a_iload_n eX8_set_53 rfl ?_
          refine a_iadd eX8_set_54 ?_
          refine a_iload_n eX8_set_55 rfl ?_
          refine qX8_141 rfl eX8_set_56 (Nat.le_of_ble_eq_true rfl) ?_
          refine Tr.of rfl (Nat.le_of_ble_eq_true rfl) (vs := [some (.ref (G.1 100)), some (.int ((10 + (4 * v1)) + v2)), some (.int v3), none]) rfl ?_
          refine a_aload_n eX8_changes_0 rfl ?_
          refine gX8_0 eX8_changes_1 fl_X8_7 ?_
          refine a_iload_n eX8_changes_4 rfl ?_
          obtain ⟨h2, hv⟩ := hv
          refine a_iald eX8_changes_5 sA101 kA101 h2 ?_
          refine a_istore_n (vs' := [some (.ref (G.1 100)), some (.int ((10 + (4 * v1)) + v2)), some (.int v3), some (.int (M 101 (ix ((10 + (4 * v1)) + v2))))]) eX8_changes_6 rfl (Nat.le_of_ble_eq_true rfl) rfl ?_
          refine a_aload_n eX8_changes_7 rfl ?_
          refine gX8_0 eX8_changes_8 fl_X8_7 ?_
          refine a_iload_n eX8_changes_11 rfl ?_
          refine a_iload_n eX8_changes_12 rfl ?_
          obtain ⟨h3, hv⟩ := hv
          refine a_iast eX8_changes_13 sA101 kA101 h3 ?_
          refine a_iload_n eX8_changes_14 rfl ?_
          refine a_iret eX8_changes_15 rfl rfl (ret_i ?_)
          exact a_iret eX8_set_59 rfl rfl hv
        · replace hv := (hv.1 w4).2 w5
          refine a_if_ne (tgt := 46) eX8_set_40 (by decide) (fun h => absurd h (by decide)) (fun _ => ?_)
          refine a_ldc eX8_set_43 kc_X8_117 ?_
          exact a_iret eX8_set_45 rfl rfl hv
        · replace hv := hv.2 w4
          refine a_if_ne (tgt := 46) eX8_set_40 (by decide) (fun h => absurd h (by decide)) (fun _ => ?_)
          refine a_ldc eX8_set_43 kc_X8_117 ?_
          exact a_iret eX8_set_45 rfl rfl hv
      · replace hv := hv.1 w1
        refine a_ldc2i 9 eX8_set_28 kl_X8_73 (by decide) ?_
        refine a_goto (tgt := 37) eX8_set_31 (by decide) ?_
        refine qX8_68 rfl eX8_set_37 (Nat.le_of_ble_eq_true rfl) ?_
        refine in_isIn (v := v3) (lo := 0) (hi := 9) ⟨fun w8 => ⟨fun w9 => ret_i ?_, fun w9 => ret_i ?_⟩, fun w8 => ret_i ?_⟩
        · replace hv := (hv.1 w8).1 w9
          refine a_if_ne (tgt := 46) eX8_set_40 (by decide) (fun _ => ?_) (fun h => absurd h (by decide))
          refine a_aload_n eX8_set_46 rfl ?_
          refine a_bipush (v := 10) eX8_set_47 (by decide) ?_
          refine a_iconst (v := 4) eX8_set_49 (by decide) ?_
          refine a_iload_n eX8_set_50 rfl ?_
          refine a_imul eX8_set_51 ?_
          refine a_iadd eX8_set_52 ?_
          refine a_iload_n eX8_set_53 rfl ?_
          refine a_iadd eX8_set_54 ?_
          refine a_iload_n eX8_set_55 rfl ?_
          refine qX8_141 rfl eX8_set_56 (Nat.le_of_ble_eq_true rfl) ?_
          refine Tr.of rfl (Nat.le_of_ble_eq_true rfl) (vs := [some (.ref (G.1 100)), some (.int ((10 + (4 * v1)) + v2)), some (.int v3), none]) rfl ?_
          refine a_aload_n eX8_changes_0 rfl ?_
          refine gX8_0 eX8_changes_1 fl_X8_7 ?_
          refine a_iload_n eX8_changes_4 rfl ?_
          obtain ⟨h6, hv⟩ := hv
          refine a_iald eX8_changes_5 sA101 kA101 h6 ?_
          refine a_istore_n (vs' := [some (.ref (G.1 100)), some (.int ((10 + (4 * v1)) + v2)), some (.int v3), some (.int (M 101 (ix ((10 + (4 * v1)) + v2))))]) eX8_changes_6 rfl (Nat.le_of_ble_eq_true rfl) rfl ?_
          refine a_aload_n eX8_changes_7 rfl ?_
          refine gX8_0 eX8_changes_8 fl_X8_7 ?_
          refine a_iload_n eX8_changes_11 rfl ?_
          refine a_iload_n eX8_changes_12 rfl ?_
          obtain ⟨h7, hv⟩ := hv
          refine a_iast eX8_changes_13 sA101 kA101 h7 ?_
          refine a_iload_n eX8_changes_14 rfl ?_
          refine a_iret eX8_changes_15 rfl rfl (ret_i ?_)
          exact a_iret eX8_set_59 rfl rfl hv
        · replace hv := (hv.1 w8).2 w9
          refine a_if_ne (tgt := 46) eX8_set_40 (by decide) (fun h => absurd h (by decide)) (fun _ => ?_)
          refine a_ldc eX8_set_43 kc_X8_117 ?_
          exact a_iret eX8_set_45 rfl rfl hv
        · replace hv := hv.2 w8
          refine a_if_ne (tgt := 46) eX8_set_40 (by decide) (fun h => absurd h (by decide)) (fun _ => ?_)
          refine a_ldc eX8_set_43 kc_X8_117 ?_
          exact a_iret eX8_set_45 rfl rfl hv
    · replace hv := (hv.1 w10).2 w11
      refine a_if_eq (tgt := 43) eX8_set_17 (by decide) (fun _ => ?_) (fun h => absurd h (by decide))
      refine a_ldc eX8_set_43 kc_X8_117 ?_
      exact a_iret eX8_set_45 rfl rfl hv
    · replace hv := hv.2 w10
      refine a_if_eq (tgt := 43) eX8_set_17 (by decide) (fun _ => ?_) (fun h => absurd h (by decide))
      refine a_ldc eX8_set_43 kc_X8_117 ?_
      exact a_iret eX8_set_45 rfl rfl hv
  · replace hv := (hv.1 w12).2 w13
    refine a_iret eX8_isOne_15 rfl rfl (ret_i ?_)
    refine a_if_eq (tgt := 43) eX8_set_5 (by decide) (fun _ => ?_) (fun h => absurd h (by decide))
    refine a_ldc eX8_set_43 kc_X8_117 ?_
    exact a_iret eX8_set_45 rfl rfl hv
  · replace hv := hv.2 w12
    refine a_iret eX8_isOne_15 rfl rfl (ret_i ?_)
    refine a_if_eq (tgt := 43) eX8_set_5 (by decide) (fun _ => ?_) (fun h => absurd h (by decide))
    refine a_ldc eX8_set_43 kc_X8_117 ?_
    exact a_iret eX8_set_45 rfl rfl hv
theorem tX8_pricks {l : Launch} {G : GT} {d : Nat} {M : Mem} {R : Option Value → Mem → Prop} {v1 : Int32} {v2 : Int32} {v3 : Int32} (hv : (0 ≤ v1 → (v1 ≤ ((M 101 0) - 1) → (0 ≤ v2 → (v2 ≤ ((M 101 3) - 1) → vp_in ((10 + (4 * v1)) + 3) 3084 ∧ ((((M 101 (ix ((10 + (4 * v1)) + 3))) >>> (v2 &&& 31)) &&& 1) = 1 → (1 = v3 → R (some (.int (-1000000002))) M) ∧ (¬ (1 = v3) → vp_in ((10 + (4 * v1)) + 3) 3084 ∧ ∀ M9 : Mem, M9 = um M 101 (ix ((10 + (4 * v1)) + 3)) ((M 101 (ix ((10 + (4 * v1)) + 3))) ^^^ ((1 : Int32) <<< (v2 &&& 31))) → vp_in ((10 + (4 * v1)) + 3) 3084 ∧ Tr l G (d + 3) mX8_bits [.int (M9 101 (ix ((10 + (4 * v1)) + 3)))] M9 (kI fun q M' => At l G (d + 4) mX8_pricks 61 [none, none, none, none, none] [.int q] M' R))) ∧ (¬ ((((M 101 (ix ((10 + (4 * v1)) + 3))) >>> (v2 &&& 31)) &&& 1) = 1) → (0 = v3 → R (some (.int (-1000000002))) M) ∧ (¬ (0 = v3) → vp_in ((10 + (4 * v1)) + 3) 3084 ∧ ∀ M5 : Mem, M5 = um M 101 (ix ((10 + (4 * v1)) + 3)) ((M 101 (ix ((10 + (4 * v1)) + 3))) ^^^ ((1 : Int32) <<< (v2 &&& 31))) → vp_in ((10 + (4 * v1)) + 3) 3084 ∧ Tr l G (d + 3) mX8_bits [.int (M5 101 (ix ((10 + (4 * v1)) + 3)))] M5 (kI fun q M' => At l G (d + 4) mX8_pricks 61 [none, none, none, none, none] [.int q] M' R)))) ∧ (¬ (v2 ≤ ((M 101 3) - 1)) → R (some (.int (-1000000001))) M)) ∧ (¬ (0 ≤ v2) → R (some (.int (-1000000001))) M)) ∧ (¬ (v1 ≤ ((M 101 0) - 1)) → R (some (.int (-1000000001))) M)) ∧ (¬ (0 ≤ v1) → R (some (.int (-1000000001))) M)) : Tr l G (d + 4) mX8_pricks [.ref (G.1 100), .int v1, .int v2, .int v3] M R := by
  refine Tr.of rfl (Nat.le_of_ble_eq_true rfl) (vs := [some (.ref (G.1 100)), some (.int v1), some (.int v2), some (.int v3), none]) rfl ?_
  refine a_aload_n eX8_pricks_0 rfl ?_
  refine a_iload_n eX8_pricks_1 rfl ?_
  refine qX8_123 rfl eX8_pricks_2 (Nat.le_of_ble_eq_true rfl) ?_
  refine Tr.of rfl (Nat.le_of_ble_eq_true rfl) (vs := [some (.ref (G.1 100)), some (.int v1)]) rfl ?_
  refine a_iload_n eX8_isOne_0 rfl ?_
  refine a_i2l eX8_isOne_1 ?_
  refine a_lconsti 0 eX8_isOne_2 (by decide) ?_
  refine a_aload_n eX8_isOne_3 rfl ?_
  refine gX8_0 eX8_isOne_4 fl_X8_7 ?_
  refine a_iconst (v := 0) eX8_isOne_7 (by decide) ?_
  refine a_ialdc 0 eX8_isOne_8 sA101 kA101 (by decide) (by decide) ?_
  refine a_iconst (v := 1) eX8_isOne_9 (by decide) ?_
  refine a_isub eX8_isOne_10 ?_
  refine a_i2l eX8_isOne_11 ?_
  refine qX8_68 rfl eX8_isOne_12 (Nat.le_of_ble_eq_true rfl) ?_
  refine in_isIn (v := v1) (lo := 0) (hi := (M 101 0) - 1) ⟨fun w13 => ⟨fun w14 => ret_i ?_, fun w14 => ret_i ?_⟩, fun w13 => ret_i ?_⟩
  · replace hv := (hv.1 w13).1 w14
    refine a_iret eX8_isOne_15 rfl rfl (ret_i ?_)
    refine a_if_eq (tgt := 16) eX8_pricks_5 (by decide) (fun h => absurd h (by decide)) (fun _ => ?_)
    refine a_aload_n eX8_pricks_8 rfl ?_
    refine a_iload_n eX8_pricks_9 rfl ?_
    refine qX8_146 rfl eX8_pricks_10 (Nat.le_of_ble_eq_true rfl) ?_
    refine Tr.of rfl (Nat.le_of_ble_eq_true rfl) (vs := [some (.ref (G.1 100)), some (.int v2)]) rfl ?_
    refine a_iload_n eX8_isWay_0 rfl ?_
    refine a_i2l eX8_isWay_1 ?_
    refine a_lconsti 0 eX8_isWay_2 (by decide) ?_
    refine a_aload_n eX8_isWay_3 rfl ?_
    refine gX8_0 eX8_isWay_4 fl_X8_7 ?_
    refine a_iconst (v := 3) eX8_isWay_7 (by decide) ?_
    refine a_ialdc 3 eX8_isWay_8 sA101 kA101 (by decide) (by decide) ?_
    refine a_iconst (v := 1) eX8_isWay_9 (by decide) ?_
    refine a_isub eX8_isWay_10 ?_
    refine a_i2l eX8_isWay_11 ?_
    refine qX8_68 rfl eX8_isWay_12 (Nat.le_of_ble_eq_true rfl) ?_
    refine in_isIn (v := v2) (lo := 0) (hi := (M 101 3) - 1) ⟨fun w11 => ⟨fun w12 => ret_i ?_, fun w12 => ret_i ?_⟩, fun w11 => ret_i ?_⟩
    · replace hv := (hv.1 w11).1 w12
      refine a_iret eX8_isWay_15 rfl rfl (ret_i ?_)
      refine a_if_ne (tgt := 19) eX8_pricks_13 (by decide) (fun _ => ?_) (fun h => absurd h (by decide))
      refine a_aload_n eX8_pricks_19 rfl ?_
      refine a_iload_n eX8_pricks_20 rfl ?_
      refine a_iconst (v := 3) eX8_pricks_21 (by decide) ?_
      refine qX8_86 rfl eX8_pricks_22 (Nat.le_of_ble_eq_true rfl) ?_
      refine Tr.of rfl (Nat.le_of_ble_eq_true rfl) (vs := [some (.ref (G.1 100)), some (.int v1), some (.int 3)]) rfl ?_
      refine a_aload_n eX8_of_0 rfl ?_
      refine gX8_0 eX8_of_1 fl_X8_7 ?_
      refine a_bipush (v := 10) eX8_of_4 (by decide) ?_
      refine a_iconst (v := 4) eX8_of_6 (by decide) ?_
      refine a_iload_n eX8_of_7 rfl ?_
      refine a_imul eX8_of_8 ?_
      refine a_iadd eX8_of_9 ?_
      refine a_iload_n eX8_of_10 rfl ?_
      refine a_iadd eX8_of_11 ?_
      obtain ⟨h1, hv⟩ := hv
      refine a_iald eX8_of_12 sA101 kA101 h1 ?_
      refine a_iret eX8_of_13 rfl rfl (ret_i ?_)
      refine a_istore (vs' := [some (.ref (G.1 100)), some (.int v1), some (.int v2), some (.int v3), some (.int (M 101 (ix ((10 + (4 * v1)) + 3))))]) eX8_pricks_25 rfl (Nat.le_of_ble_eq_true rfl) rfl ?_
      refine a_iload eX8_pricks_27 rfl ?_
      refine a_iload_n eX8_pricks_29 rfl ?_
      refine qX8_149 rfl eX8_pricks_30 (Nat.le_of_ble_eq_true rfl) ?_
      refine Tr.of rfl (Nat.le_of_ble_eq_true rfl) (vs := [some (.int (M 101 (ix ((10 + (4 * v1)) + 3)))), some (.int v2)]) rfl ?_
      refine a_iload_n eX8_isAmong_0 rfl ?_
      refine a_iload_n eX8_isAmong_1 rfl ?_
      refine a_ishr eX8_isAmong_2 ?_
      refine a_iconst (v := 1) eX8_isAmong_3 (by decide) ?_
      refine a_iand eX8_isAmong_4 ?_
      refine a_iconst (v := 1) eX8_isAmong_5 (by decide) ?_
      refine a_icmp_ne (tgt := 13) eX8_isAmong_6 (by decide) (fun w2 => ?_) (fun w2 => ?_)
      · replace hv := hv.2 w2
        refine a_iconst (v := 0) eX8_isAmong_13 (by decide) ?_
        refine a_iret eX8_isAmong_14 rfl rfl (ret_i ?_)
        refine a_iload_n eX8_pricks_33 rfl ?_
        refine a_icmp_ne (tgt := 40) eX8_pricks_34 (by decide) (fun w3 => ?_) (fun w3 => ?_)
        · replace hv := hv.2 w3
          refine a_aload_n eX8_pricks_40 rfl ?_
          refine a_iload_n eX8_pricks_41 rfl ?_
          refine a_iconst (v := 3) eX8_pricks_42 (by decide) ?_
          refine a_iload eX8_pricks_43 rfl ?_
          refine a_iconst (v := 1) eX8_pricks_45 (by decide) ?_
          refine a_iload_n eX8_pricks_46 rfl ?_
          refine a_ishl eX8_pricks_47 ?_
          refine a_ixor eX8_pricks_48 ?_
          refine qX8_105 rfl eX8_pricks_49 (Nat.le_of_ble_eq_true rfl) ?_
          refine Tr.of rfl (Nat.le_of_ble_eq_true rfl) (vs := [some (.ref (G.1 100)), some (.int v1), some (.int 3), some (.int ((M 101 (ix ((10 + (4 * v1)) + 3))) ^^^ ((1 : Int32) <<< (v2 &&& 31))))]) rfl ?_
          refine a_aload_n eX8_sets_0 rfl ?_
          refine gX8_0 eX8_sets_1 fl_X8_7 ?_
          refine a_bipush (v := 10) eX8_sets_4 (by decide) ?_
          refine a_iconst (v := 4) eX8_sets_6 (by decide) ?_
          refine a_iload_n eX8_sets_7 rfl ?_
          refine a_imul eX8_sets_8 ?_
          refine a_iadd eX8_sets_9 ?_
          refine a_iload_n eX8_sets_10 rfl ?_
          refine a_iadd eX8_sets_11 ?_
          refine a_iload_n eX8_sets_12 rfl ?_
          obtain ⟨h4, hv⟩ := hv
          refine a_iast eX8_sets_13 sA101 kA101 h4 ?_
          refine a_nm (fun M5 eM5 => ?_)
          replace hv := hv M5 eM5
          refine a_vret eX8_sets_14 rfl (ret_v ?_)
          refine a_aload_n eX8_pricks_52 rfl ?_
          refine a_iload_n eX8_pricks_53 rfl ?_
          refine a_iconst (v := 3) eX8_pricks_54 (by decide) ?_
          refine qX8_86 rfl eX8_pricks_55 (Nat.le_of_ble_eq_true rfl) ?_
          refine Tr.of rfl (Nat.le_of_ble_eq_true rfl) (vs := [some (.ref (G.1 100)), some (.int v1), some (.int 3)]) rfl ?_
          refine a_aload_n eX8_of_0 rfl ?_
          refine gX8_0 eX8_of_1 fl_X8_7 ?_
          refine a_bipush (v := 10) eX8_of_4 (by decide) ?_
          refine a_iconst (v := 4) eX8_of_6 (by decide) ?_
          refine a_iload_n eX8_of_7 rfl ?_
          refine a_imul eX8_of_8 ?_
          refine a_iadd eX8_of_9 ?_
          refine a_iload_n eX8_of_10 rfl ?_
          refine a_iadd eX8_of_11 ?_
          obtain ⟨h6, hv⟩ := hv
          refine a_iald eX8_of_12 sA101 kA101 h6 ?_
          refine a_iret eX8_of_13 rfl rfl (ret_i ?_)
          exact qX8_102 rfl eX8_pricks_58 (Nat.le_of_ble_eq_true rfl) (tr_I [false, false, false, false, false] rfl rfl hv)
        · replace hv := hv.1 w3
          refine a_ldc eX8_pricks_37 kc_X8_152 ?_
          exact a_iret eX8_pricks_39 rfl rfl hv
      · replace hv := hv.1 w2
        refine a_iconst (v := 1) eX8_isAmong_9 (by decide) ?_
        refine a_goto (tgt := 14) eX8_isAmong_10 (by decide) ?_
        refine a_iret eX8_isAmong_14 rfl rfl (ret_i ?_)
        refine a_iload_n eX8_pricks_33 rfl ?_
        refine a_icmp_ne (tgt := 40) eX8_pricks_34 (by decide) (fun w7 => ?_) (fun w7 => ?_)
        · replace hv := hv.2 w7
          refine a_aload_n eX8_pricks_40 rfl ?_
          refine a_iload_n eX8_pricks_41 rfl ?_
          refine a_iconst (v := 3) eX8_pricks_42 (by decide) ?_
          refine a_iload eX8_pricks_43 rfl ?_
          refine a_iconst (v := 1) eX8_pricks_45 (by decide) ?_
          refine a_iload_n eX8_pricks_46 rfl ?_
          refine a_ishl eX8_pricks_47 ?_
          refine a_ixor eX8_pricks_48 ?_
          refine qX8_105 rfl eX8_pricks_49 (Nat.le_of_ble_eq_true rfl) ?_
          refine Tr.of rfl (Nat.le_of_ble_eq_true rfl) (vs := [some (.ref (G.1 100)), some (.int v1), some (.int 3), some (.int ((M 101 (ix ((10 + (4 * v1)) + 3))) ^^^ ((1 : Int32) <<< (v2 &&& 31))))]) rfl ?_
          refine a_aload_n eX8_sets_0 rfl ?_
          refine gX8_0 eX8_sets_1 fl_X8_7 ?_
          refine a_bipush (v := 10) eX8_sets_4 (by decide) ?_
          refine a_iconst (v := 4) eX8_sets_6 (by decide) ?_
          refine a_iload_n eX8_sets_7 rfl ?_
          refine a_imul eX8_sets_8 ?_
          refine a_iadd eX8_sets_9 ?_
          refine a_iload_n eX8_sets_10 rfl ?_
          refine a_iadd eX8_sets_11 ?_
          refine a_iload_n eX8_sets_12 rfl ?_
          obtain ⟨h8, hv⟩ := hv
          refine a_iast eX8_sets_13 sA101 kA101 h8 ?_
          refine a_nm (fun M9 eM9 => ?_)
          replace hv := hv M9 eM9
          refine a_vret eX8_sets_14 rfl (ret_v ?_)
          refine a_aload_n eX8_pricks_52 rfl ?_
          refine a_iload_n eX8_pricks_53 rfl ?_
          refine a_iconst (v := 3) eX8_pricks_54 (by decide) ?_
          refine qX8_86 rfl eX8_pricks_55 (Nat.le_of_ble_eq_true rfl) ?_
          refine Tr.of rfl (Nat.le_of_ble_eq_true rfl) (vs := [some (.ref (G.1 100)), some (.int v1), some (.int 3)]) rfl ?_
          refine a_aload_n eX8_of_0 rfl ?_
          refine gX8_0 eX8_of_1 fl_X8_7 ?_
          refine a_bipush (v := 10) eX8_of_4 (by decide) ?_
          refine a_iconst (v := 4) eX8_of_6 (by decide) ?_
          refine a_iload_n eX8_of_7 rfl ?_
          refine a_imul eX8_of_8 ?_
          refine a_iadd eX8_of_9 ?_
          refine a_iload_n eX8_of_10 rfl ?_
          refine a_iadd eX8_of_11 ?_
          obtain ⟨h10, hv⟩ := hv
          refine a_iald eX8_of_12 sA101 kA101 h10 ?_
          refine a_iret eX8_of_13 rfl rfl (ret_i ?_)
          exact qX8_102 rfl eX8_pricks_58 (Nat.le_of_ble_eq_true rfl) (tr_I [false, false, false, false, false] rfl rfl hv)
        · replace hv := hv.1 w7
          refine a_ldc eX8_pricks_37 kc_X8_152 ?_
          exact a_iret eX8_pricks_39 rfl rfl hv
    · replace hv := (hv.1 w11).2 w12
      refine a_iret eX8_isWay_15 rfl rfl (ret_i ?_)
      refine a_if_ne (tgt := 19) eX8_pricks_13 (by decide) (fun h => absurd h (by decide)) (fun _ => ?_)
      refine a_ldc eX8_pricks_16 kc_X8_117 ?_
      exact a_iret eX8_pricks_18 rfl rfl hv
    · replace hv := hv.2 w11
      refine a_iret eX8_isWay_15 rfl rfl (ret_i ?_)
      refine a_if_ne (tgt := 19) eX8_pricks_13 (by decide) (fun h => absurd h (by decide)) (fun _ => ?_)
      refine a_ldc eX8_pricks_16 kc_X8_117 ?_
      exact a_iret eX8_pricks_18 rfl rfl hv
  · replace hv := (hv.1 w13).2 w14
    refine a_iret eX8_isOne_15 rfl rfl (ret_i ?_)
    refine a_if_eq (tgt := 16) eX8_pricks_5 (by decide) (fun _ => ?_) (fun h => absurd h (by decide))
    refine a_ldc eX8_pricks_16 kc_X8_117 ?_
    exact a_iret eX8_pricks_18 rfl rfl hv
  · replace hv := hv.2 w13
    refine a_iret eX8_isOne_15 rfl rfl (ret_i ?_)
    refine a_if_eq (tgt := 16) eX8_pricks_5 (by decide) (fun _ => ?_) (fun h => absurd h (by decide))
    refine a_ldc eX8_pricks_16 kc_X8_117 ?_
    exact a_iret eX8_pricks_18 rfl rfl hv
theorem bX8_pricks_61 {l : Launch} {G : GT} {d : Nat} {M : Mem} {R : Option Value → Mem → Prop} {r : Int32} (hv : R (some (.int r)) M) : At l G (d + 4) mX8_pricks 61 [none, none, none, none, none] [.int r] M R := by
  exact a_iret eX8_pricks_61 rfl rfl hv
theorem tX8_ink {l : Launch} {G : GT} {d : Nat} {M : Mem} {R : Option Value → Mem → Prop} {v1 : Int32} {v2 : Int32} (hv : Tr l G (d + 3) mX8_pricks [.ref (G.1 100), .int v1, .int v2, .int 1] M (kI fun q M' => At l G (d + 4) mX8_ink 7 [none, none, none] [.int q] M' R)) : Tr l G (d + 4) mX8_ink [.ref (G.1 100), .int v1, .int v2] M R := by
  refine Tr.of rfl (Nat.le_of_ble_eq_true rfl) (vs := [some (.ref (G.1 100)), some (.int v1), some (.int v2)]) rfl ?_
  refine a_aload_n eX8_ink_0 rfl ?_
  refine a_iload_n eX8_ink_1 rfl ?_
  refine a_iload_n eX8_ink_2 rfl ?_
  refine a_iconst (v := 1) eX8_ink_3 (by decide) ?_
  exact qX8_153 rfl eX8_ink_4 (Nat.le_of_ble_eq_true rfl) (tr_I [false, false, false] rfl rfl hv)
theorem bX8_ink_7 {l : Launch} {G : GT} {d : Nat} {M : Mem} {R : Option Value → Mem → Prop} {r : Int32} (hv : R (some (.int r)) M) : At l G (d + 4) mX8_ink 7 [none, none, none] [.int r] M R := by
  exact a_iret eX8_ink_7 rfl rfl hv
theorem tX8_scar {l : Launch} {G : GT} {d : Nat} {M : Mem} {R : Option Value → Mem → Prop} {v1 : Int32} {v2 : Int32} (hv : Tr l G (d + 3) mX8_pricks [.ref (G.1 100), .int v1, .int v2, .int 0] M (kI fun q M' => At l G (d + 4) mX8_scar 7 [none, none, none] [.int q] M' R)) : Tr l G (d + 4) mX8_scar [.ref (G.1 100), .int v1, .int v2] M R := by
  refine Tr.of rfl (Nat.le_of_ble_eq_true rfl) (vs := [some (.ref (G.1 100)), some (.int v1), some (.int v2)]) rfl ?_
  refine a_aload_n eX8_scar_0 rfl ?_
  refine a_iload_n eX8_scar_1 rfl ?_
  refine a_iload_n eX8_scar_2 rfl ?_
  refine a_iconst (v := 0) eX8_scar_3 (by decide) ?_
  exact qX8_153 rfl eX8_scar_4 (Nat.le_of_ble_eq_true rfl) (tr_I [false, false, false] rfl rfl hv)
theorem bX8_scar_7 {l : Launch} {G : GT} {d : Nat} {M : Mem} {R : Option Value → Mem → Prop} {r : Int32} (hv : R (some (.int r)) M) : At l G (d + 4) mX8_scar 7 [none, none, none] [.int r] M R := by
  exact a_iret eX8_scar_7 rfl rfl hv
theorem tX8_about {l : Launch} {G : GT} {d : Nat} {M : Mem} {R : Option Value → Mem → Prop} {v1 : Int32} {v2 : Int32} (hv : (0 ≤ v1 → (v1 ≤ ((M 101 3) - 1) → (0 ≤ v2 → (v2 ≤ 3 → (3 ≤ v2 → At l G (d + 4) mX8_about 47 [some (.ref (G.1 100)), some (.int v1), none, some (.int 0), some (.int 0)] [] M R) ∧ (¬ (3 ≤ v2) → vp_in ((42 + (3 * v1)) + v2) 3084 ∧ R (some (.int (M 101 (ix ((42 + (3 * v1)) + v2))))) M)) ∧ (¬ (v2 ≤ 3) → R (some (.int (-1000000001))) M)) ∧ (¬ (0 ≤ v2) → R (some (.int (-1000000001))) M)) ∧ (¬ (v1 ≤ ((M 101 3) - 1)) → R (some (.int (-1000000001))) M)) ∧ (¬ (0 ≤ v1) → R (some (.int (-1000000001))) M)) : Tr l G (d + 4) mX8_about [.ref (G.1 100), .int v1, .int v2] M R := by
  refine Tr.of rfl (Nat.le_of_ble_eq_true rfl) (vs := [some (.ref (G.1 100)), some (.int v1), some (.int v2), none, none]) rfl ?_
  refine a_aload_n eX8_about_0 rfl ?_
  refine a_iload_n eX8_about_1 rfl ?_
  refine qX8_146 rfl eX8_about_2 (Nat.le_of_ble_eq_true rfl) ?_
  refine Tr.of rfl (Nat.le_of_ble_eq_true rfl) (vs := [some (.ref (G.1 100)), some (.int v1)]) rfl ?_
  refine a_iload_n eX8_isWay_0 rfl ?_
  refine a_i2l eX8_isWay_1 ?_
  refine a_lconsti 0 eX8_isWay_2 (by decide) ?_
  refine a_aload_n eX8_isWay_3 rfl ?_
  refine gX8_0 eX8_isWay_4 fl_X8_7 ?_
  refine a_iconst (v := 3) eX8_isWay_7 (by decide) ?_
  refine a_ialdc 3 eX8_isWay_8 sA101 kA101 (by decide) (by decide) ?_
  refine a_iconst (v := 1) eX8_isWay_9 (by decide) ?_
  refine a_isub eX8_isWay_10 ?_
  refine a_i2l eX8_isWay_11 ?_
  refine qX8_68 rfl eX8_isWay_12 (Nat.le_of_ble_eq_true rfl) ?_
  refine in_isIn (v := v1) (lo := 0) (hi := (M 101 3) - 1) ⟨fun w5 => ⟨fun w6 => ret_i ?_, fun w6 => ret_i ?_⟩, fun w5 => ret_i ?_⟩
  · replace hv := (hv.1 w5).1 w6
    refine a_iret eX8_isWay_15 rfl rfl (ret_i ?_)
    refine a_if_eq (tgt := 20) eX8_about_5 (by decide) (fun h => absurd h (by decide)) (fun _ => ?_)
    refine a_iload_n eX8_about_8 rfl ?_
    refine a_i2l eX8_about_9 ?_
    refine a_lconsti 0 eX8_about_10 (by decide) ?_
    refine a_ldc2i 3 eX8_about_11 kl_X8_157 (by decide) ?_
    refine qX8_68 rfl eX8_about_14 (Nat.le_of_ble_eq_true rfl) ?_
    refine in_isIn (v := v2) (lo := 0) (hi := 3) ⟨fun w3 => ⟨fun w4 => ret_i ?_, fun w4 => ret_i ?_⟩, fun w3 => ret_i ?_⟩
    · replace hv := (hv.1 w3).1 w4
      refine a_if_ne (tgt := 23) eX8_about_17 (by decide) (fun _ => ?_) (fun h => absurd h (by decide))
      refine a_iload_n eX8_about_23 rfl ?_
      refine a_iconst (v := 3) eX8_about_24 (by decide) ?_
      refine a_icmp_ge (tgt := 42) eX8_about_25 (by decide) (fun w1 => ?_) (fun w1 => ?_)
      · replace hv := hv.1 w1
        refine a_iconst (v := 0) eX8_about_42 (by decide) ?_
        refine a_istore_n (vs' := [some (.ref (G.1 100)), some (.int v1), some (.int v2), some (.int 0), none]) eX8_about_43 rfl (Nat.le_of_ble_eq_true rfl) rfl ?_
        refine a_iconst (v := 0) eX8_about_44 (by decide) ?_
        refine a_istore (vs' := [some (.ref (G.1 100)), some (.int v1), some (.int v2), some (.int 0), some (.int 0)]) eX8_about_45 rfl (Nat.le_of_ble_eq_true rfl) rfl ?_
        exact a_weak [true, true, false, true, true] rfl rfl hv
      · replace hv := hv.2 w1
        refine a_aload_n eX8_about_28 rfl ?_
        refine gX8_0 eX8_about_29 fl_X8_7 ?_
        refine a_bipush (v := 42) eX8_about_32 (by decide) ?_
        refine a_iconst (v := 3) eX8_about_34 (by decide) ?_
        refine a_iload_n eX8_about_35 rfl ?_
        refine a_imul eX8_about_36 ?_
        refine a_iadd eX8_about_37 ?_
        refine a_iload_n eX8_about_38 rfl ?_
        refine a_iadd eX8_about_39 ?_
        obtain ⟨h2, hv⟩ := hv
        refine a_iald eX8_about_40 sA101 kA101 h2 ?_
        exact a_iret eX8_about_41 rfl rfl hv
    · replace hv := (hv.1 w3).2 w4
      refine a_if_ne (tgt := 23) eX8_about_17 (by decide) (fun h => absurd h (by decide)) (fun _ => ?_)
      refine a_ldc eX8_about_20 kc_X8_117 ?_
      exact a_iret eX8_about_22 rfl rfl hv
    · replace hv := hv.2 w3
      refine a_if_ne (tgt := 23) eX8_about_17 (by decide) (fun h => absurd h (by decide)) (fun _ => ?_)
      refine a_ldc eX8_about_20 kc_X8_117 ?_
      exact a_iret eX8_about_22 rfl rfl hv
  · replace hv := (hv.1 w5).2 w6
    refine a_iret eX8_isWay_15 rfl rfl (ret_i ?_)
    refine a_if_eq (tgt := 20) eX8_about_5 (by decide) (fun _ => ?_) (fun h => absurd h (by decide))
    refine a_ldc eX8_about_20 kc_X8_117 ?_
    exact a_iret eX8_about_22 rfl rfl hv
  · replace hv := hv.2 w5
    refine a_iret eX8_isWay_15 rfl rfl (ret_i ?_)
    refine a_if_eq (tgt := 20) eX8_about_5 (by decide) (fun _ => ?_) (fun h => absurd h (by decide))
    refine a_ldc eX8_about_20 kc_X8_117 ?_
    exact a_iret eX8_about_22 rfl rfl hv
theorem bX8_about_47 {l : Launch} {G : GT} {d : Nat} {M : Mem} {R : Option Value → Mem → Prop} {v1 : Int32} {v3 : Int32} {v4 : Int32} (hv : ((M 101 0) ≤ v4 → R (some (.int v3)) M) ∧ (¬ ((M 101 0) ≤ v4) → vp_in ((10 + (4 * v4)) + 3) 3084 ∧ ((((M 101 (ix ((10 + (4 * v4)) + 3))) >>> (v1 &&& 31)) &&& 1) = 1 → At l G (d + 4) mX8_about 47 [some (.ref (G.1 100)), some (.int v1), none, some (.int (v3 ||| ((1 : Int32) <<< (v4 &&& 31)))), some (.int (v4 + 1))] [] M R) ∧ (¬ ((((M 101 (ix ((10 + (4 * v4)) + 3))) >>> (v1 &&& 31)) &&& 1) = 1) → At l G (d + 4) mX8_about 47 [some (.ref (G.1 100)), some (.int v1), none, some (.int (v3 ||| 0)), some (.int (v4 + 1))] [] M R))) : At l G (d + 4) mX8_about 47 [some (.ref (G.1 100)), some (.int v1), none, some (.int v3), some (.int v4)] [] M R := by
  refine a_iload eX8_about_47 rfl ?_
  refine a_aload_n eX8_about_49 rfl ?_
  refine gX8_0 eX8_about_50 fl_X8_7 ?_
  refine a_iconst (v := 0) eX8_about_53 (by decide) ?_
  refine a_ialdc 0 eX8_about_54 sA101 kA101 (by decide) (by decide) ?_
  refine a_icmp_ge (tgt := 89) eX8_about_55 (by decide) (fun w1 => ?_) (fun w1 => ?_)
  · replace hv := hv.1 w1
    refine a_iload_n eX8_about_89 rfl ?_
    exact a_iret eX8_about_90 rfl rfl hv
  · replace hv := hv.2 w1
    refine a_iload_n eX8_about_58 rfl ?_
    refine a_aload_n eX8_about_59 rfl ?_
    refine a_iload eX8_about_60 rfl ?_
    refine a_iconst (v := 3) eX8_about_62 (by decide) ?_
    refine qX8_86 rfl eX8_about_63 (Nat.le_of_ble_eq_true rfl) ?_
    refine Tr.of rfl (Nat.le_of_ble_eq_true rfl) (vs := [some (.ref (G.1 100)), some (.int v4), some (.int 3)]) rfl ?_
    refine a_aload_n eX8_of_0 rfl ?_
    refine gX8_0 eX8_of_1 fl_X8_7 ?_
    refine a_bipush (v := 10) eX8_of_4 (by decide) ?_
    refine a_iconst (v := 4) eX8_of_6 (by decide) ?_
    refine a_iload_n eX8_of_7 rfl ?_
    refine a_imul eX8_of_8 ?_
    refine a_iadd eX8_of_9 ?_
    refine a_iload_n eX8_of_10 rfl ?_
    refine a_iadd eX8_of_11 ?_
    obtain ⟨h2, hv⟩ := hv
    refine a_iald eX8_of_12 sA101 kA101 h2 ?_
    refine a_iret eX8_of_13 rfl rfl (ret_i ?_)
    refine a_iload_n eX8_about_66 rfl ?_
    refine qX8_149 rfl eX8_about_67 (Nat.le_of_ble_eq_true rfl) ?_
    refine Tr.of rfl (Nat.le_of_ble_eq_true rfl) (vs := [some (.int (M 101 (ix ((10 + (4 * v4)) + 3)))), some (.int v1)]) rfl ?_
    refine a_iload_n eX8_isAmong_0 rfl ?_
    refine a_iload_n eX8_isAmong_1 rfl ?_
    refine a_ishr eX8_isAmong_2 ?_
    refine a_iconst (v := 1) eX8_isAmong_3 (by decide) ?_
    refine a_iand eX8_isAmong_4 ?_
    refine a_iconst (v := 1) eX8_isAmong_5 (by decide) ?_
    refine a_icmp_ne (tgt := 13) eX8_isAmong_6 (by decide) (fun w3 => ?_) (fun w3 => ?_)
    · replace hv := hv.2 w3
      refine a_iconst (v := 0) eX8_isAmong_13 (by decide) ?_
      refine a_iret eX8_isAmong_14 rfl rfl (ret_i ?_)
      refine a_if_eq (tgt := 80) eX8_about_70 (by decide) (fun _ => ?_) (fun h => absurd h (by decide))
      refine a_iconst (v := 0) eX8_about_80 (by decide) ?_
      refine a_ior eX8_about_81 ?_
      refine a_istore_n (vs' := [some (.ref (G.1 100)), some (.int v1), none, some (.int (v3 ||| 0)), some (.int v4)]) eX8_about_82 rfl (Nat.le_of_ble_eq_true rfl) rfl ?_
      refine a_iinc (v := 1) (vs' := [some (.ref (G.1 100)), some (.int v1), none, some (.int (v3 ||| 0)), some (.int (v4 + 1))]) eX8_about_83 rfl rfl (by decide) rfl ?_
      refine a_goto (tgt := 47) eX8_about_86 (by decide) ?_
      exact a_weak [true, true, false, true, true] rfl rfl hv
    · replace hv := hv.1 w3
      refine a_iconst (v := 1) eX8_isAmong_9 (by decide) ?_
      refine a_goto (tgt := 14) eX8_isAmong_10 (by decide) ?_
      refine a_iret eX8_isAmong_14 rfl rfl (ret_i ?_)
      refine a_if_eq (tgt := 80) eX8_about_70 (by decide) (fun h => absurd h (by decide)) (fun _ => ?_)
      refine a_iconst (v := 1) eX8_about_73 (by decide) ?_
      refine a_iload eX8_about_74 rfl ?_
      refine a_ishl eX8_about_76 ?_
      refine a_goto (tgt := 81) eX8_about_77 (by decide) ?_
      refine a_ior eX8_about_81 ?_
      refine a_istore_n (vs' := [some (.ref (G.1 100)), some (.int v1), none, some (.int (v3 ||| ((1 : Int32) <<< (v4 &&& 31)))), some (.int v4)]) eX8_about_82 rfl (Nat.le_of_ble_eq_true rfl) rfl ?_
      refine a_iinc (v := 1) (vs' := [some (.ref (G.1 100)), some (.int v1), none, some (.int (v3 ||| ((1 : Int32) <<< (v4 &&& 31)))), some (.int (v4 + 1))]) eX8_about_83 rfl rfl (by decide) rfl ?_
      refine a_goto (tgt := 47) eX8_about_86 (by decide) ?_
      exact a_weak [true, true, false, true, true] rfl rfl hv
theorem tX8_slides {l : Launch} {G : GT} {d : Nat} {M : Mem} {R : Option Value → Mem → Prop} {v1 : Int32} (hv : (0 ≤ v1 → (v1 ≤ ((M 101 3) - 1) → vp_in ((42 + (3 * v1)) + 2) 3084 ∧ ((M 101 (ix ((42 + (3 * v1)) + 2))) = 1 → vp_in ((42 + (3 * v1)) + 2) 3084 ∧ vp_in ((42 + (3 * v1)) + 2) 3084 ∧ R (some (.int (M 101 (ix ((42 + (3 * v1)) + 2))))) (um M 101 (ix ((42 + (3 * v1)) + 2)) 0)) ∧ (¬ ((M 101 (ix ((42 + (3 * v1)) + 2))) = 1) → vp_in ((42 + (3 * v1)) + 2) 3084 ∧ vp_in ((42 + (3 * v1)) + 2) 3084 ∧ R (some (.int (M 101 (ix ((42 + (3 * v1)) + 2))))) (um M 101 (ix ((42 + (3 * v1)) + 2)) 1))) ∧ (¬ (v1 ≤ ((M 101 3) - 1)) → R (some (.int (-1000000001))) M)) ∧ (¬ (0 ≤ v1) → R (some (.int (-1000000001))) M)) : Tr l G (d + 4) mX8_slides [.ref (G.1 100), .int v1] M R := by
  refine Tr.of rfl (Nat.le_of_ble_eq_true rfl) (vs := [some (.ref (G.1 100)), some (.int v1)]) rfl ?_
  refine a_aload_n eX8_slides_0 rfl ?_
  refine a_iload_n eX8_slides_1 rfl ?_
  refine qX8_146 rfl eX8_slides_2 (Nat.le_of_ble_eq_true rfl) ?_
  refine Tr.of rfl (Nat.le_of_ble_eq_true rfl) (vs := [some (.ref (G.1 100)), some (.int v1)]) rfl ?_
  refine a_iload_n eX8_isWay_0 rfl ?_
  refine a_i2l eX8_isWay_1 ?_
  refine a_lconsti 0 eX8_isWay_2 (by decide) ?_
  refine a_aload_n eX8_isWay_3 rfl ?_
  refine gX8_0 eX8_isWay_4 fl_X8_7 ?_
  refine a_iconst (v := 3) eX8_isWay_7 (by decide) ?_
  refine a_ialdc 3 eX8_isWay_8 sA101 kA101 (by decide) (by decide) ?_
  refine a_iconst (v := 1) eX8_isWay_9 (by decide) ?_
  refine a_isub eX8_isWay_10 ?_
  refine a_i2l eX8_isWay_11 ?_
  refine qX8_68 rfl eX8_isWay_12 (Nat.le_of_ble_eq_true rfl) ?_
  refine in_isIn (v := v1) (lo := 0) (hi := (M 101 3) - 1) ⟨fun w7 => ⟨fun w8 => ret_i ?_, fun w8 => ret_i ?_⟩, fun w7 => ret_i ?_⟩
  · replace hv := (hv.1 w7).1 w8
    refine a_iret eX8_isWay_15 rfl rfl (ret_i ?_)
    refine a_if_eq (tgt := 36) eX8_slides_5 (by decide) (fun h => absurd h (by decide)) (fun _ => ?_)
    refine a_aload_n eX8_slides_8 rfl ?_
    refine a_bipush (v := 42) eX8_slides_9 (by decide) ?_
    refine a_iconst (v := 3) eX8_slides_11 (by decide) ?_
    refine a_iload_n eX8_slides_12 rfl ?_
    refine a_imul eX8_slides_13 ?_
    refine a_iadd eX8_slides_14 ?_
    refine a_iconst (v := 2) eX8_slides_15 (by decide) ?_
    refine a_iadd eX8_slides_16 ?_
    refine a_aload_n eX8_slides_17 rfl ?_
    refine a_iload_n eX8_slides_18 rfl ?_
    refine qX8_159 rfl eX8_slides_19 (Nat.le_of_ble_eq_true rfl) ?_
    refine Tr.of rfl (Nat.le_of_ble_eq_true rfl) (vs := [some (.ref (G.1 100)), some (.int v1)]) rfl ?_
    refine a_aload_n eX8_stands_0 rfl ?_
    refine gX8_0 eX8_stands_1 fl_X8_7 ?_
    refine a_bipush (v := 42) eX8_stands_4 (by decide) ?_
    refine a_iconst (v := 3) eX8_stands_6 (by decide) ?_
    refine a_iload_n eX8_stands_7 rfl ?_
    refine a_imul eX8_stands_8 ?_
    refine a_iadd eX8_stands_9 ?_
    refine a_iconst (v := 2) eX8_stands_10 (by decide) ?_
    refine a_iadd eX8_stands_11 ?_
    obtain ⟨h1, hv⟩ := hv
    refine a_iald eX8_stands_12 sA101 kA101 h1 ?_
    refine a_iconst (v := 1) eX8_stands_13 (by decide) ?_
    refine a_icmp_ne (tgt := 21) eX8_stands_14 (by decide) (fun w2 => ?_) (fun w2 => ?_)
    · replace hv := hv.2 w2
      refine a_iconst (v := 0) eX8_stands_21 (by decide) ?_
      refine a_iret eX8_stands_22 rfl rfl (ret_i ?_)
      refine a_if_eq (tgt := 29) eX8_slides_22 (by decide) (fun _ => ?_) (fun h => absurd h (by decide))
      refine a_iconst (v := 1) eX8_slides_29 (by decide) ?_
      refine qX8_141 rfl eX8_slides_30 (Nat.le_of_ble_eq_true rfl) ?_
      refine Tr.of rfl (Nat.le_of_ble_eq_true rfl) (vs := [some (.ref (G.1 100)), some (.int ((42 + (3 * v1)) + 2)), some (.int 1), none]) rfl ?_
      refine a_aload_n eX8_changes_0 rfl ?_
      refine gX8_0 eX8_changes_1 fl_X8_7 ?_
      refine a_iload_n eX8_changes_4 rfl ?_
      obtain ⟨h3, hv⟩ := hv
      refine a_iald eX8_changes_5 sA101 kA101 h3 ?_
      refine a_istore_n (vs' := [some (.ref (G.1 100)), some (.int ((42 + (3 * v1)) + 2)), some (.int 1), some (.int (M 101 (ix ((42 + (3 * v1)) + 2))))]) eX8_changes_6 rfl (Nat.le_of_ble_eq_true rfl) rfl ?_
      refine a_aload_n eX8_changes_7 rfl ?_
      refine gX8_0 eX8_changes_8 fl_X8_7 ?_
      refine a_iload_n eX8_changes_11 rfl ?_
      refine a_iload_n eX8_changes_12 rfl ?_
      obtain ⟨h4, hv⟩ := hv
      refine a_iast eX8_changes_13 sA101 kA101 h4 ?_
      refine a_iload_n eX8_changes_14 rfl ?_
      refine a_iret eX8_changes_15 rfl rfl (ret_i ?_)
      refine a_goto (tgt := 38) eX8_slides_33 (by decide) ?_
      exact a_iret eX8_slides_38 rfl rfl hv
    · replace hv := hv.1 w2
      refine a_iconst (v := 1) eX8_stands_17 (by decide) ?_
      refine a_goto (tgt := 22) eX8_stands_18 (by decide) ?_
      refine a_iret eX8_stands_22 rfl rfl (ret_i ?_)
      refine a_if_eq (tgt := 29) eX8_slides_22 (by decide) (fun h => absurd h (by decide)) (fun _ => ?_)
      refine a_iconst (v := 0) eX8_slides_25 (by decide) ?_
      refine a_goto (tgt := 30) eX8_slides_26 (by decide) ?_
      refine qX8_141 rfl eX8_slides_30 (Nat.le_of_ble_eq_true rfl) ?_
      refine Tr.of rfl (Nat.le_of_ble_eq_true rfl) (vs := [some (.ref (G.1 100)), some (.int ((42 + (3 * v1)) + 2)), some (.int 0), none]) rfl ?_
      refine a_aload_n eX8_changes_0 rfl ?_
      refine gX8_0 eX8_changes_1 fl_X8_7 ?_
      refine a_iload_n eX8_changes_4 rfl ?_
      obtain ⟨h5, hv⟩ := hv
      refine a_iald eX8_changes_5 sA101 kA101 h5 ?_
      refine a_istore_n (vs' := [some (.ref (G.1 100)), some (.int ((42 + (3 * v1)) + 2)), some (.int 0), some (.int (M 101 (ix ((42 + (3 * v1)) + 2))))]) eX8_changes_6 rfl (Nat.le_of_ble_eq_true rfl) rfl ?_
      refine a_aload_n eX8_changes_7 rfl ?_
      refine gX8_0 eX8_changes_8 fl_X8_7 ?_
      refine a_iload_n eX8_changes_11 rfl ?_
      refine a_iload_n eX8_changes_12 rfl ?_
      obtain ⟨h6, hv⟩ := hv
      refine a_iast eX8_changes_13 sA101 kA101 h6 ?_
      refine a_iload_n eX8_changes_14 rfl ?_
      refine a_iret eX8_changes_15 rfl rfl (ret_i ?_)
      refine a_goto (tgt := 38) eX8_slides_33 (by decide) ?_
      exact a_iret eX8_slides_38 rfl rfl hv
  · replace hv := (hv.1 w7).2 w8
    refine a_iret eX8_isWay_15 rfl rfl (ret_i ?_)
    refine a_if_eq (tgt := 36) eX8_slides_5 (by decide) (fun _ => ?_) (fun h => absurd h (by decide))
    refine a_ldc eX8_slides_36 kc_X8_117 ?_
    exact a_iret eX8_slides_38 rfl rfl hv
  · replace hv := hv.2 w7
    refine a_iret eX8_isWay_15 rfl rfl (ret_i ?_)
    refine a_if_eq (tgt := 36) eX8_slides_5 (by decide) (fun _ => ?_) (fun h => absurd h (by decide))
    refine a_ldc eX8_slides_36 kc_X8_117 ?_
    exact a_iret eX8_slides_38 rfl rfl hv
theorem tX8_those {l : Launch} {G : GT} {d : Nat} {M : Mem} {R : Option Value → Mem → Prop} {v1 : Int32} (hv : At l G (d + 4) mX8_those 4 [some (.ref (G.1 100)), some (.int v1), some (.int 0), some (.int 0)] [] M R) : Tr l G (d + 4) mX8_those [.ref (G.1 100), .int v1] M R := by
  refine Tr.of rfl (Nat.le_of_ble_eq_true rfl) (vs := [some (.ref (G.1 100)), some (.int v1), none, none]) rfl ?_
  refine a_iconst (v := 0) eX8_those_0 (by decide) ?_
  refine a_istore_n (vs' := [some (.ref (G.1 100)), some (.int v1), some (.int 0), none]) eX8_those_1 rfl (Nat.le_of_ble_eq_true rfl) rfl ?_
  refine a_iconst (v := 0) eX8_those_2 (by decide) ?_
  refine a_istore_n (vs' := [some (.ref (G.1 100)), some (.int v1), some (.int 0), some (.int 0)]) eX8_those_3 rfl (Nat.le_of_ble_eq_true rfl) rfl ?_
  exact a_weak [true, true, true, true] rfl rfl hv
theorem bX8_those_4 {l : Launch} {G : GT} {d : Nat} {M : Mem} {R : Option Value → Mem → Prop} {v1 : Int32} {v2 : Int32} {v3 : Int32} (hv : ((M 101 0) ≤ v3 → R (some (.int v2)) M) ∧ (¬ ((M 101 0) ≤ v3) → vp_in ((10 + (4 * v3)) + 1) 3084 ∧ ((M 101 (ix ((10 + (4 * v3)) + 1))) = v1 → At l G (d + 4) mX8_those 4 [some (.ref (G.1 100)), some (.int v1), some (.int (v2 ||| ((1 : Int32) <<< (v3 &&& 31)))), some (.int (v3 + 1))] [] M R) ∧ (¬ ((M 101 (ix ((10 + (4 * v3)) + 1))) = v1) → At l G (d + 4) mX8_those 4 [some (.ref (G.1 100)), some (.int v1), some (.int (v2 ||| 0)), some (.int (v3 + 1))] [] M R))) : At l G (d + 4) mX8_those 4 [some (.ref (G.1 100)), some (.int v1), some (.int v2), some (.int v3)] [] M R := by
  refine a_iload_n eX8_those_4 rfl ?_
  refine a_aload_n eX8_those_5 rfl ?_
  refine gX8_0 eX8_those_6 fl_X8_7 ?_
  refine a_iconst (v := 0) eX8_those_9 (by decide) ?_
  refine a_ialdc 0 eX8_those_10 sA101 kA101 (by decide) (by decide) ?_
  refine a_icmp_ge (tgt := 40) eX8_those_11 (by decide) (fun w1 => ?_) (fun w1 => ?_)
  · replace hv := hv.1 w1
    refine a_iload_n eX8_those_40 rfl ?_
    exact a_iret eX8_those_41 rfl rfl hv
  · replace hv := hv.2 w1
    refine a_iload_n eX8_those_14 rfl ?_
    refine a_aload_n eX8_those_15 rfl ?_
    refine a_iload_n eX8_those_16 rfl ?_
    refine a_iconst (v := 1) eX8_those_17 (by decide) ?_
    refine qX8_86 rfl eX8_those_18 (Nat.le_of_ble_eq_true rfl) ?_
    refine Tr.of rfl (Nat.le_of_ble_eq_true rfl) (vs := [some (.ref (G.1 100)), some (.int v3), some (.int 1)]) rfl ?_
    refine a_aload_n eX8_of_0 rfl ?_
    refine gX8_0 eX8_of_1 fl_X8_7 ?_
    refine a_bipush (v := 10) eX8_of_4 (by decide) ?_
    refine a_iconst (v := 4) eX8_of_6 (by decide) ?_
    refine a_iload_n eX8_of_7 rfl ?_
    refine a_imul eX8_of_8 ?_
    refine a_iadd eX8_of_9 ?_
    refine a_iload_n eX8_of_10 rfl ?_
    refine a_iadd eX8_of_11 ?_
    obtain ⟨h2, hv⟩ := hv
    refine a_iald eX8_of_12 sA101 kA101 h2 ?_
    refine a_iret eX8_of_13 rfl rfl (ret_i ?_)
    refine a_iload_n eX8_those_21 rfl ?_
    refine a_icmp_ne (tgt := 31) eX8_those_22 (by decide) (fun w3 => ?_) (fun w3 => ?_)
    · replace hv := hv.2 w3
      refine a_iconst (v := 0) eX8_those_31 (by decide) ?_
      refine a_ior eX8_those_32 ?_
      refine a_istore_n (vs' := [some (.ref (G.1 100)), some (.int v1), some (.int (v2 ||| 0)), some (.int v3)]) eX8_those_33 rfl (Nat.le_of_ble_eq_true rfl) rfl ?_
      refine a_iinc (v := 1) (vs' := [some (.ref (G.1 100)), some (.int v1), some (.int (v2 ||| 0)), some (.int (v3 + 1))]) eX8_those_34 rfl rfl (by decide) rfl ?_
      refine a_goto (tgt := 4) eX8_those_37 (by decide) ?_
      exact a_weak [true, true, true, true] rfl rfl hv
    · replace hv := hv.1 w3
      refine a_iconst (v := 1) eX8_those_25 (by decide) ?_
      refine a_iload_n eX8_those_26 rfl ?_
      refine a_ishl eX8_those_27 ?_
      refine a_goto (tgt := 32) eX8_those_28 (by decide) ?_
      refine a_ior eX8_those_32 ?_
      refine a_istore_n (vs' := [some (.ref (G.1 100)), some (.int v1), some (.int (v2 ||| ((1 : Int32) <<< (v3 &&& 31)))), some (.int v3)]) eX8_those_33 rfl (Nat.le_of_ble_eq_true rfl) rfl ?_
      refine a_iinc (v := 1) (vs' := [some (.ref (G.1 100)), some (.int v1), some (.int (v2 ||| ((1 : Int32) <<< (v3 &&& 31)))), some (.int (v3 + 1))]) eX8_those_34 rfl rfl (by decide) rfl ?_
      refine a_goto (tgt := 4) eX8_those_37 (by decide) ?_
      exact a_weak [true, true, true, true] rfl rfl hv
theorem tX8_at {l : Launch} {G : GT} {d : Nat} {M : Mem} {R : Option Value → Mem → Prop} {v1 : Int32} (hv : (0 ≤ v1 → (v1 ≤ 9 → Tr l G (d + 3) mX8_those [.ref (G.1 100), .int v1] M (kI fun q M' => At l G (d + 4) mX8_at 12 [none, none] [.int q] M' R)) ∧ (¬ (v1 ≤ 9) → R (some (.int (-1000000001))) M)) ∧ (¬ (0 ≤ v1) → R (some (.int (-1000000001))) M)) : Tr l G (d + 4) mX8_at [.ref (G.1 100), .int v1] M R := by
  refine Tr.of rfl (Nat.le_of_ble_eq_true rfl) (vs := [some (.ref (G.1 100)), some (.int v1)]) rfl ?_
  refine a_iload_n eX8_at_0 rfl ?_
  refine qX8_111 rfl eX8_at_1 (Nat.le_of_ble_eq_true rfl) ?_
  refine Tr.of rfl (Nat.le_of_ble_eq_true rfl) (vs := [some (.int v1)]) rfl ?_
  refine a_iload_n eX8_isPlace_0 rfl ?_
  refine a_i2l eX8_isPlace_1 ?_
  refine a_lconsti 0 eX8_isPlace_2 (by decide) ?_
  refine a_ldc2i 9 eX8_isPlace_3 kl_X8_73 (by decide) ?_
  refine qX8_68 rfl eX8_isPlace_6 (Nat.le_of_ble_eq_true rfl) ?_
  refine in_isIn (v := v1) (lo := 0) (hi := 9) ⟨fun w1 => ⟨fun w2 => ret_i ?_, fun w2 => ret_i ?_⟩, fun w1 => ret_i ?_⟩
  · replace hv := (hv.1 w1).1 w2
    refine a_iret eX8_isPlace_9 rfl rfl (ret_i ?_)
    refine a_if_eq (tgt := 15) eX8_at_4 (by decide) (fun h => absurd h (by decide)) (fun _ => ?_)
    refine a_aload_n eX8_at_7 rfl ?_
    refine a_iload_n eX8_at_8 rfl ?_
    exact qX8_162 rfl eX8_at_9 (Nat.le_of_ble_eq_true rfl) (tr_I [false, false] rfl rfl hv)
  · replace hv := (hv.1 w1).2 w2
    refine a_iret eX8_isPlace_9 rfl rfl (ret_i ?_)
    refine a_if_eq (tgt := 15) eX8_at_4 (by decide) (fun _ => ?_) (fun h => absurd h (by decide))
    refine a_ldc eX8_at_15 kc_X8_117 ?_
    exact a_iret eX8_at_17 rfl rfl hv
  · replace hv := hv.2 w1
    refine a_iret eX8_isPlace_9 rfl rfl (ret_i ?_)
    refine a_if_eq (tgt := 15) eX8_at_4 (by decide) (fun _ => ?_) (fun h => absurd h (by decide))
    refine a_ldc eX8_at_15 kc_X8_117 ?_
    exact a_iret eX8_at_17 rfl rfl hv
theorem bX8_at_12 {l : Launch} {G : GT} {d : Nat} {M : Mem} {R : Option Value → Mem → Prop} {r : Int32} (hv : R (some (.int r)) M) : At l G (d + 4) mX8_at 12 [none, none] [.int r] M R := by
  refine a_goto (tgt := 17) eX8_at_12 (by decide) ?_
  exact a_iret eX8_at_17 rfl rfl hv
theorem tX8_rule {l : Launch} {G : GT} {d : Nat} {M : Mem} {R : Option Value → Mem → Prop} {v1 : Int32} {v2 : Int32} (hv : (0 ≤ v1 → (v1 ≤ 1 → (0 ≤ v2 → (v2 ≤ 100 → vp_in (4 + v1) 3084 ∧ vp_in (4 + v1) 3084 ∧ R (some (.int (M 101 (ix (4 + v1))))) (um M 101 (ix (4 + v1)) v2)) ∧ (¬ (v2 ≤ 100) → R (some (.int (-1000000001))) M)) ∧ (¬ (0 ≤ v2) → R (some (.int (-1000000001))) M)) ∧ (¬ (v1 ≤ 1) → R (some (.int (-1000000001))) M)) ∧ (¬ (0 ≤ v1) → R (some (.int (-1000000001))) M)) : Tr l G (d + 4) mX8_rule [.ref (G.1 100), .int v1, .int v2] M R := by
  refine Tr.of rfl (Nat.le_of_ble_eq_true rfl) (vs := [some (.ref (G.1 100)), some (.int v1), some (.int v2)]) rfl ?_
  refine a_iload_n eX8_rule_0 rfl ?_
  refine a_i2l eX8_rule_1 ?_
  refine a_lconsti 0 eX8_rule_2 (by decide) ?_
  refine a_lconsti 1 eX8_rule_3 (by decide) ?_
  refine qX8_68 rfl eX8_rule_4 (Nat.le_of_ble_eq_true rfl) ?_
  refine in_isIn (v := v1) (lo := 0) (hi := 1) ⟨fun w5 => ⟨fun w6 => ret_i ?_, fun w6 => ret_i ?_⟩, fun w5 => ret_i ?_⟩
  · replace hv := (hv.1 w5).1 w6
    refine a_if_eq (tgt := 33) eX8_rule_7 (by decide) (fun h => absurd h (by decide)) (fun _ => ?_)
    refine a_iload_n eX8_rule_10 rfl ?_
    refine a_i2l eX8_rule_11 ?_
    refine a_lconsti 0 eX8_rule_12 (by decide) ?_
    refine a_ldc2i 100 eX8_rule_13 kl_X8_165 (by decide) ?_
    refine qX8_68 rfl eX8_rule_16 (Nat.le_of_ble_eq_true rfl) ?_
    refine in_isIn (v := v2) (lo := 0) (hi := 100) ⟨fun w3 => ⟨fun w4 => ret_i ?_, fun w4 => ret_i ?_⟩, fun w3 => ret_i ?_⟩
    · replace hv := (hv.1 w3).1 w4
      refine a_if_eq (tgt := 33) eX8_rule_19 (by decide) (fun h => absurd h (by decide)) (fun _ => ?_)
      refine a_aload_n eX8_rule_22 rfl ?_
      refine a_iconst (v := 4) eX8_rule_23 (by decide) ?_
      refine a_iload_n eX8_rule_24 rfl ?_
      refine a_iadd eX8_rule_25 ?_
      refine a_iload_n eX8_rule_26 rfl ?_
      refine qX8_141 rfl eX8_rule_27 (Nat.le_of_ble_eq_true rfl) ?_
      refine Tr.of rfl (Nat.le_of_ble_eq_true rfl) (vs := [some (.ref (G.1 100)), some (.int (4 + v1)), some (.int v2), none]) rfl ?_
      refine a_aload_n eX8_changes_0 rfl ?_
      refine gX8_0 eX8_changes_1 fl_X8_7 ?_
      refine a_iload_n eX8_changes_4 rfl ?_
      obtain ⟨h1, hv⟩ := hv
      refine a_iald eX8_changes_5 sA101 kA101 h1 ?_
      refine a_istore_n (vs' := [some (.ref (G.1 100)), some (.int (4 + v1)), some (.int v2), some (.int (M 101 (ix (4 + v1))))]) eX8_changes_6 rfl (Nat.le_of_ble_eq_true rfl) rfl ?_
      refine a_aload_n eX8_changes_7 rfl ?_
      refine gX8_0 eX8_changes_8 fl_X8_7 ?_
      refine a_iload_n eX8_changes_11 rfl ?_
      refine a_iload_n eX8_changes_12 rfl ?_
      obtain ⟨h2, hv⟩ := hv
      refine a_iast eX8_changes_13 sA101 kA101 h2 ?_
      refine a_iload_n eX8_changes_14 rfl ?_
      refine a_iret eX8_changes_15 rfl rfl (ret_i ?_)
      refine a_goto (tgt := 35) eX8_rule_30 (by decide) ?_
      exact a_iret eX8_rule_35 rfl rfl hv
    · replace hv := (hv.1 w3).2 w4
      refine a_if_eq (tgt := 33) eX8_rule_19 (by decide) (fun _ => ?_) (fun h => absurd h (by decide))
      refine a_ldc eX8_rule_33 kc_X8_117 ?_
      exact a_iret eX8_rule_35 rfl rfl hv
    · replace hv := hv.2 w3
      refine a_if_eq (tgt := 33) eX8_rule_19 (by decide) (fun _ => ?_) (fun h => absurd h (by decide))
      refine a_ldc eX8_rule_33 kc_X8_117 ?_
      exact a_iret eX8_rule_35 rfl rfl hv
  · replace hv := (hv.1 w5).2 w6
    refine a_if_eq (tgt := 33) eX8_rule_7 (by decide) (fun _ => ?_) (fun h => absurd h (by decide))
    refine a_ldc eX8_rule_33 kc_X8_117 ?_
    exact a_iret eX8_rule_35 rfl rfl hv
  · replace hv := hv.2 w5
    refine a_if_eq (tgt := 33) eX8_rule_7 (by decide) (fun _ => ?_) (fun h => absurd h (by decide))
    refine a_ldc eX8_rule_33 kc_X8_117 ?_
    exact a_iret eX8_rule_35 rfl rfl hv
theorem tX8_deal {l : Launch} {G : GT} {d : Nat} {M : Mem} {R : Option Value → Mem → Prop} {v1 : Int32} (hv : (1 ≤ v1 → (v1 ≤ 8 → At l G (d + 4) mX8_deal 17 [some (.ref (G.1 100)), some (.int v1), some (.int 0), none, none, none] [] M R) ∧ (¬ (v1 ≤ 8) → R (some (.int (-1000000001))) M)) ∧ (¬ (1 ≤ v1) → R (some (.int (-1000000001))) M)) : Tr l G (d + 4) mX8_deal [.ref (G.1 100), .int v1] M R := by
  refine Tr.of rfl (Nat.le_of_ble_eq_true rfl) (vs := [some (.ref (G.1 100)), some (.int v1), none, none, none, none]) rfl ?_
  refine a_iload_n eX8_deal_0 rfl ?_
  refine a_i2l eX8_deal_1 ?_
  refine a_lconsti 1 eX8_deal_2 (by decide) ?_
  refine a_ldc2i 8 eX8_deal_3 kl_X8_167 (by decide) ?_
  refine qX8_68 rfl eX8_deal_6 (Nat.le_of_ble_eq_true rfl) ?_
  refine in_isIn (v := v1) (lo := 1) (hi := 8) ⟨fun w1 => ⟨fun w2 => ret_i ?_, fun w2 => ret_i ?_⟩, fun w1 => ret_i ?_⟩
  · replace hv := (hv.1 w1).1 w2
    refine a_if_ne (tgt := 15) eX8_deal_9 (by decide) (fun _ => ?_) (fun h => absurd h (by decide))
    refine a_iconst (v := 0) eX8_deal_15 (by decide) ?_
    refine a_istore_n (vs' := [some (.ref (G.1 100)), some (.int v1), some (.int 0), none, none, none]) eX8_deal_16 rfl (Nat.le_of_ble_eq_true rfl) rfl ?_
    exact a_weak [true, true, true, false, false, false] rfl rfl hv
  · replace hv := (hv.1 w1).2 w2
    refine a_if_ne (tgt := 15) eX8_deal_9 (by decide) (fun h => absurd h (by decide)) (fun _ => ?_)
    refine a_ldc eX8_deal_12 kc_X8_117 ?_
    exact a_iret eX8_deal_14 rfl rfl hv
  · replace hv := hv.2 w1
    refine a_if_ne (tgt := 15) eX8_deal_9 (by decide) (fun h => absurd h (by decide)) (fun _ => ?_)
    refine a_ldc eX8_deal_12 kc_X8_117 ?_
    exact a_iret eX8_deal_14 rfl rfl hv
theorem bX8_deal_17 {l : Launch} {G : GT} {d : Nat} {M : Mem} {R : Option Value → Mem → Prop} {v1 : Int32} {v2 : Int32} (hv : (v1 ≤ v2 → R (some (.int v2)) M) ∧ (¬ (v1 ≤ v2) → (8 ≤ (M 101 0) → R (some (.int v2)) M) ∧ (¬ (8 ≤ (M 101 0)) → ∀ M3 : Mem, M3 = um (um M 101 9 (((M 101 9) * 1103515245) + 12345)) 101 9 ((((um M 101 9 (((M 101 9) * 1103515245) + 12345)) 101 9) * 1103515245) + 12345) → ∀ M4 : Mem, M4 = um (um M3 101 9 (((M3 101 9) * 1103515245) + 12345)) 101 9 ((((um M3 101 9 (((M3 101 9) * 1103515245) + 12345)) 101 9) * 1103515245) + 12345) → vp_in ((10 + (4 * (M4 101 0))) + 0) 3084 ∧ ∀ M6 : Mem, M6 = um (um M4 101 0 ((M4 101 0) + 1)) 101 (ix ((10 + (4 * (M4 101 0))) + 0)) (((((um M 101 9 (((M 101 9) * 1103515245) + 12345)) 101 9).toUInt32 >>> ((8 : Int32).toUInt32 &&& Int32.toUInt32 31)).toInt32) - ((((um M 101 9 (((M 101 9) * 1103515245) + 12345)) 101 9).toUInt32 >>> ((8 : Int32).toUInt32 &&& Int32.toUInt32 31)).toInt32) / 6 * 6) → vp_in ((10 + (4 * (M4 101 0))) + 1) 3084 ∧ ∀ M8 : Mem, M8 = um M6 101 (ix ((10 + (4 * (M4 101 0))) + 1)) ((((M3 101 9).toUInt32 >>> ((8 : Int32).toUInt32 &&& Int32.toUInt32 31)).toInt32) - (((M3 101 9).toUInt32 >>> ((8 : Int32).toUInt32 &&& Int32.toUInt32 31)).toInt32) / 10 * 10) → vp_in ((10 + (4 * (M4 101 0))) + 2) 3084 ∧ ∀ M10 : Mem, M10 = um M8 101 (ix ((10 + (4 * (M4 101 0))) + 2)) (((((um M3 101 9 (((M3 101 9) * 1103515245) + 12345)) 101 9).toUInt32 >>> ((8 : Int32).toUInt32 &&& Int32.toUInt32 31)).toInt32) - ((((um M3 101 9 (((M3 101 9) * 1103515245) + 12345)) 101 9).toUInt32 >>> ((8 : Int32).toUInt32 &&& Int32.toUInt32 31)).toInt32) / 80 * 80) → vp_in ((10 + (4 * (M4 101 0))) + 3) 3084 ∧ ∀ M12 : Mem, M12 = um M10 101 (ix ((10 + (4 * (M4 101 0))) + 3)) ((((M4 101 9).toUInt32 >>> ((8 : Int32).toUInt32 &&& Int32.toUInt32 31)).toInt32) &&& (((1 : Int32) <<< ((M4 101 3) &&& 31)) - 1)) → At l G (d + 4) mX8_deal 17 [some (.ref (G.1 100)), some (.int v1), some (.int (v2 + 1)), none, none, none] [] M12 R))) : At l G (d + 4) mX8_deal 17 [some (.ref (G.1 100)), some (.int v1), some (.int v2), none, none, none] [] M R := by
  refine a_iload_n eX8_deal_17 rfl ?_
  refine a_iload_n eX8_deal_18 rfl ?_
  refine a_icmp_ge (tgt := 89) eX8_deal_19 (by decide) (fun w1 => ?_) (fun w1 => ?_)
  · replace hv := hv.1 w1
    refine a_iload_n eX8_deal_89 rfl ?_
    exact a_iret eX8_deal_90 rfl rfl hv
  · replace hv := hv.2 w1
    refine a_aload_n eX8_deal_22 rfl ?_
    refine gX8_0 eX8_deal_23 fl_X8_7 ?_
    refine a_iconst (v := 0) eX8_deal_26 (by decide) ?_
    refine a_ialdc 0 eX8_deal_27 sA101 kA101 (by decide) (by decide) ?_
    refine a_bipush (v := 8) eX8_deal_28 (by decide) ?_
    refine a_icmp_ge (tgt := 89) eX8_deal_30 (by decide) (fun w2 => ?_) (fun w2 => ?_)
    · replace hv := hv.1 w2
      refine a_iload_n eX8_deal_89 rfl ?_
      exact a_iret eX8_deal_90 rfl rfl hv
    · replace hv := hv.2 w2
      refine a_aload_n eX8_deal_33 rfl ?_
      refine qX8_169 rfl eX8_deal_34 (Nat.le_of_ble_eq_true rfl) ?_
      refine Tr.of rfl (Nat.le_of_ble_eq_true rfl) (vs := [some (.ref (G.1 100))]) rfl ?_
      refine a_aload_n eX8_drawn_0 rfl ?_
      refine gX8_0 eX8_drawn_1 fl_X8_7 ?_
      refine a_bipush (v := 9) eX8_drawn_4 (by decide) ?_
      refine a_aload_n eX8_drawn_6 rfl ?_
      refine gX8_0 eX8_drawn_7 fl_X8_7 ?_
      refine a_bipush (v := 9) eX8_drawn_10 (by decide) ?_
      refine a_ialdc 9 eX8_drawn_12 sA101 kA101 (by decide) (by decide) ?_
      refine a_ldc eX8_drawn_13 kc_X8_72 ?_
      refine a_imul eX8_drawn_15 ?_
      refine a_sipush (v := 12345) eX8_drawn_16 (by decide) ?_
      refine a_iadd eX8_drawn_19 ?_
      refine a_iastc 9 eX8_drawn_20 sA101 kA101 (by decide) (by decide) ?_
      refine a_aload_n eX8_drawn_21 rfl ?_
      refine gX8_0 eX8_drawn_22 fl_X8_7 ?_
      refine a_bipush (v := 9) eX8_drawn_25 (by decide) ?_
      refine a_ialdc 9 eX8_drawn_27 sA101 kA101 (by decide) (by decide) ?_
      refine a_bipush (v := 8) eX8_drawn_28 (by decide) ?_
      refine a_iushr eX8_drawn_30 ?_
      refine a_iret eX8_drawn_31 rfl rfl (ret_i ?_)
      refine a_bipush (v := 6) eX8_deal_37 (by decide) ?_
      refine a_irem eX8_deal_39 (by decide) ?_
      refine a_istore_n (vs' := [some (.ref (G.1 100)), some (.int v1), some (.int v2), some (.int (((((um M 101 9 (((M 101 9) * 1103515245) + 12345)) 101 9).toUInt32 >>> ((8 : Int32).toUInt32 &&& Int32.toUInt32 31)).toInt32) - ((((um M 101 9 (((M 101 9) * 1103515245) + 12345)) 101 9).toUInt32 >>> ((8 : Int32).toUInt32 &&& Int32.toUInt32 31)).toInt32) / 6 * 6)), none, none]) eX8_deal_40 rfl (Nat.le_of_ble_eq_true rfl) rfl ?_
      refine a_aload_n eX8_deal_41 rfl ?_
      refine qX8_169 rfl eX8_deal_42 (Nat.le_of_ble_eq_true rfl) ?_
      refine Tr.of rfl (Nat.le_of_ble_eq_true rfl) (vs := [some (.ref (G.1 100))]) rfl ?_
      refine a_aload_n eX8_drawn_0 rfl ?_
      refine gX8_0 eX8_drawn_1 fl_X8_7 ?_
      refine a_bipush (v := 9) eX8_drawn_4 (by decide) ?_
      refine a_aload_n eX8_drawn_6 rfl ?_
      refine gX8_0 eX8_drawn_7 fl_X8_7 ?_
      refine a_bipush (v := 9) eX8_drawn_10 (by decide) ?_
      refine a_ialdc 9 eX8_drawn_12 sA101 kA101 (by decide) (by decide) ?_
      refine a_ldc eX8_drawn_13 kc_X8_72 ?_
      refine a_imul eX8_drawn_15 ?_
      refine a_sipush (v := 12345) eX8_drawn_16 (by decide) ?_
      refine a_iadd eX8_drawn_19 ?_
      refine a_iastc 9 eX8_drawn_20 sA101 kA101 (by decide) (by decide) ?_
      refine a_nm (fun M3 eM3 => ?_)
      replace hv := hv M3 eM3
      refine a_aload_n eX8_drawn_21 rfl ?_
      refine gX8_0 eX8_drawn_22 fl_X8_7 ?_
      refine a_bipush (v := 9) eX8_drawn_25 (by decide) ?_
      refine a_ialdc 9 eX8_drawn_27 sA101 kA101 (by decide) (by decide) ?_
      refine a_bipush (v := 8) eX8_drawn_28 (by decide) ?_
      refine a_iushr eX8_drawn_30 ?_
      refine a_iret eX8_drawn_31 rfl rfl (ret_i ?_)
      refine a_bipush (v := 10) eX8_deal_45 (by decide) ?_
      refine a_irem eX8_deal_47 (by decide) ?_
      refine a_istore (vs' := [some (.ref (G.1 100)), some (.int v1), some (.int v2), some (.int (((((um M 101 9 (((M 101 9) * 1103515245) + 12345)) 101 9).toUInt32 >>> ((8 : Int32).toUInt32 &&& Int32.toUInt32 31)).toInt32) - ((((um M 101 9 (((M 101 9) * 1103515245) + 12345)) 101 9).toUInt32 >>> ((8 : Int32).toUInt32 &&& Int32.toUInt32 31)).toInt32) / 6 * 6)), some (.int ((((M3 101 9).toUInt32 >>> ((8 : Int32).toUInt32 &&& Int32.toUInt32 31)).toInt32) - (((M3 101 9).toUInt32 >>> ((8 : Int32).toUInt32 &&& Int32.toUInt32 31)).toInt32) / 10 * 10)), none]) eX8_deal_48 rfl (Nat.le_of_ble_eq_true rfl) rfl ?_
      refine a_aload_n eX8_deal_50 rfl ?_
      refine qX8_169 rfl eX8_deal_51 (Nat.le_of_ble_eq_true rfl) ?_
      refine Tr.of rfl (Nat.le_of_ble_eq_true rfl) (vs := [some (.ref (G.1 100))]) rfl ?_
      refine a_aload_n eX8_drawn_0 rfl ?_
      refine gX8_0 eX8_drawn_1 fl_X8_7 ?_
      refine a_bipush (v := 9) eX8_drawn_4 (by decide) ?_
      refine a_aload_n eX8_drawn_6 rfl ?_
      refine gX8_0 eX8_drawn_7 fl_X8_7 ?_
      refine a_bipush (v := 9) eX8_drawn_10 (by decide) ?_
      refine a_ialdc 9 eX8_drawn_12 sA101 kA101 (by decide) (by decide) ?_
      refine a_ldc eX8_drawn_13 kc_X8_72 ?_
      refine a_imul eX8_drawn_15 ?_
      refine a_sipush (v := 12345) eX8_drawn_16 (by decide) ?_
      refine a_iadd eX8_drawn_19 ?_
      refine a_iastc 9 eX8_drawn_20 sA101 kA101 (by decide) (by decide) ?_
      refine a_aload_n eX8_drawn_21 rfl ?_
      refine gX8_0 eX8_drawn_22 fl_X8_7 ?_
      refine a_bipush (v := 9) eX8_drawn_25 (by decide) ?_
      refine a_ialdc 9 eX8_drawn_27 sA101 kA101 (by decide) (by decide) ?_
      refine a_bipush (v := 8) eX8_drawn_28 (by decide) ?_
      refine a_iushr eX8_drawn_30 ?_
      refine a_iret eX8_drawn_31 rfl rfl (ret_i ?_)
      refine a_bipush (v := 80) eX8_deal_54 (by decide) ?_
      refine a_irem eX8_deal_56 (by decide) ?_
      refine a_istore (vs' := [some (.ref (G.1 100)), some (.int v1), some (.int v2), some (.int (((((um M 101 9 (((M 101 9) * 1103515245) + 12345)) 101 9).toUInt32 >>> ((8 : Int32).toUInt32 &&& Int32.toUInt32 31)).toInt32) - ((((um M 101 9 (((M 101 9) * 1103515245) + 12345)) 101 9).toUInt32 >>> ((8 : Int32).toUInt32 &&& Int32.toUInt32 31)).toInt32) / 6 * 6)), some (.int ((((M3 101 9).toUInt32 >>> ((8 : Int32).toUInt32 &&& Int32.toUInt32 31)).toInt32) - (((M3 101 9).toUInt32 >>> ((8 : Int32).toUInt32 &&& Int32.toUInt32 31)).toInt32) / 10 * 10)), some (.int (((((um M3 101 9 (((M3 101 9) * 1103515245) + 12345)) 101 9).toUInt32 >>> ((8 : Int32).toUInt32 &&& Int32.toUInt32 31)).toInt32) - ((((um M3 101 9 (((M3 101 9) * 1103515245) + 12345)) 101 9).toUInt32 >>> ((8 : Int32).toUInt32 &&& Int32.toUInt32 31)).toInt32) / 80 * 80))]) eX8_deal_57 rfl (Nat.le_of_ble_eq_true rfl) rfl ?_
      refine a_aload_n eX8_deal_59 rfl ?_
      refine a_iload_n eX8_deal_60 rfl ?_
      refine a_iload eX8_deal_61 rfl ?_
      refine a_iload eX8_deal_63 rfl ?_
      refine a_aload_n eX8_deal_65 rfl ?_
      refine qX8_169 rfl eX8_deal_66 (Nat.le_of_ble_eq_true rfl) ?_
      refine Tr.of rfl (Nat.le_of_ble_eq_true rfl) (vs := [some (.ref (G.1 100))]) rfl ?_
      refine a_aload_n eX8_drawn_0 rfl ?_
      refine gX8_0 eX8_drawn_1 fl_X8_7 ?_
      refine a_bipush (v := 9) eX8_drawn_4 (by decide) ?_
      refine a_aload_n eX8_drawn_6 rfl ?_
      refine gX8_0 eX8_drawn_7 fl_X8_7 ?_
      refine a_bipush (v := 9) eX8_drawn_10 (by decide) ?_
      refine a_ialdc 9 eX8_drawn_12 sA101 kA101 (by decide) (by decide) ?_
      refine a_ldc eX8_drawn_13 kc_X8_72 ?_
      refine a_imul eX8_drawn_15 ?_
      refine a_sipush (v := 12345) eX8_drawn_16 (by decide) ?_
      refine a_iadd eX8_drawn_19 ?_
      refine a_iastc 9 eX8_drawn_20 sA101 kA101 (by decide) (by decide) ?_
      refine a_nm (fun M4 eM4 => ?_)
      replace hv := hv M4 eM4
      refine a_aload_n eX8_drawn_21 rfl ?_
      refine gX8_0 eX8_drawn_22 fl_X8_7 ?_
      refine a_bipush (v := 9) eX8_drawn_25 (by decide) ?_
      refine a_ialdc 9 eX8_drawn_27 sA101 kA101 (by decide) (by decide) ?_
      refine a_bipush (v := 8) eX8_drawn_28 (by decide) ?_
      refine a_iushr eX8_drawn_30 ?_
      refine a_iret eX8_drawn_31 rfl rfl (ret_i ?_)
      refine a_iconst (v := 1) eX8_deal_69 (by decide) ?_
      refine a_aload_n eX8_deal_70 rfl ?_
      refine gX8_0 eX8_deal_71 fl_X8_7 ?_
      refine a_iconst (v := 3) eX8_deal_74 (by decide) ?_
      refine a_ialdc 3 eX8_deal_75 sA101 kA101 (by decide) (by decide) ?_
      refine a_ishl eX8_deal_76 ?_
      refine a_iconst (v := 1) eX8_deal_77 (by decide) ?_
      refine a_isub eX8_deal_78 ?_
      refine a_iand eX8_deal_79 ?_
      refine qX8_119 rfl eX8_deal_80 (Nat.le_of_ble_eq_true rfl) ?_
      refine Tr.of rfl (Nat.le_of_ble_eq_true rfl) (vs := [some (.ref (G.1 100)), some (.int (((((um M 101 9 (((M 101 9) * 1103515245) + 12345)) 101 9).toUInt32 >>> ((8 : Int32).toUInt32 &&& Int32.toUInt32 31)).toInt32) - ((((um M 101 9 (((M 101 9) * 1103515245) + 12345)) 101 9).toUInt32 >>> ((8 : Int32).toUInt32 &&& Int32.toUInt32 31)).toInt32) / 6 * 6)), some (.int ((((M3 101 9).toUInt32 >>> ((8 : Int32).toUInt32 &&& Int32.toUInt32 31)).toInt32) - (((M3 101 9).toUInt32 >>> ((8 : Int32).toUInt32 &&& Int32.toUInt32 31)).toInt32) / 10 * 10)), some (.int (((((um M3 101 9 (((M3 101 9) * 1103515245) + 12345)) 101 9).toUInt32 >>> ((8 : Int32).toUInt32 &&& Int32.toUInt32 31)).toInt32) - ((((um M3 101 9 (((M3 101 9) * 1103515245) + 12345)) 101 9).toUInt32 >>> ((8 : Int32).toUInt32 &&& Int32.toUInt32 31)).toInt32) / 80 * 80)), some (.int ((((M4 101 9).toUInt32 >>> ((8 : Int32).toUInt32 &&& Int32.toUInt32 31)).toInt32) &&& (((1 : Int32) <<< ((M4 101 3) &&& 31)) - 1))), none]) rfl ?_
      refine a_aload_n eX8_comes_0 rfl ?_
      refine gX8_0 eX8_comes_1 fl_X8_7 ?_
      refine a_iconst (v := 0) eX8_comes_4 (by decide) ?_
      refine a_ialdc 0 eX8_comes_5 sA101 kA101 (by decide) (by decide) ?_
      refine a_istore (vs' := [some (.ref (G.1 100)), some (.int (((((um M 101 9 (((M 101 9) * 1103515245) + 12345)) 101 9).toUInt32 >>> ((8 : Int32).toUInt32 &&& Int32.toUInt32 31)).toInt32) - ((((um M 101 9 (((M 101 9) * 1103515245) + 12345)) 101 9).toUInt32 >>> ((8 : Int32).toUInt32 &&& Int32.toUInt32 31)).toInt32) / 6 * 6)), some (.int ((((M3 101 9).toUInt32 >>> ((8 : Int32).toUInt32 &&& Int32.toUInt32 31)).toInt32) - (((M3 101 9).toUInt32 >>> ((8 : Int32).toUInt32 &&& Int32.toUInt32 31)).toInt32) / 10 * 10)), some (.int (((((um M3 101 9 (((M3 101 9) * 1103515245) + 12345)) 101 9).toUInt32 >>> ((8 : Int32).toUInt32 &&& Int32.toUInt32 31)).toInt32) - ((((um M3 101 9 (((M3 101 9) * 1103515245) + 12345)) 101 9).toUInt32 >>> ((8 : Int32).toUInt32 &&& Int32.toUInt32 31)).toInt32) / 80 * 80)), some (.int ((((M4 101 9).toUInt32 >>> ((8 : Int32).toUInt32 &&& Int32.toUInt32 31)).toInt32) &&& (((1 : Int32) <<< ((M4 101 3) &&& 31)) - 1))), some (.int (M4 101 0))]) eX8_comes_6 rfl (Nat.le_of_ble_eq_true rfl) rfl ?_
      refine a_aload_n eX8_comes_8 rfl ?_
      refine gX8_0 eX8_comes_9 fl_X8_7 ?_
      refine a_iconst (v := 0) eX8_comes_12 (by decide) ?_
      refine a_dup2 eX8_comes_13 rfl rfl ?_
      refine a_ialdc 0 eX8_comes_14 sA101 kA101 (by decide) (by decide) ?_
      refine a_iconst (v := 1) eX8_comes_15 (by decide) ?_
      refine a_iadd eX8_comes_16 ?_
      refine a_iastc 0 eX8_comes_17 sA101 kA101 (by decide) (by decide) ?_
      refine a_aload_n eX8_comes_18 rfl ?_
      refine a_iload eX8_comes_19 rfl ?_
      refine a_iconst (v := 0) eX8_comes_21 (by decide) ?_
      refine a_iload_n eX8_comes_22 rfl ?_
      refine qX8_105 rfl eX8_comes_23 (Nat.le_of_ble_eq_true rfl) ?_
      refine Tr.of rfl (Nat.le_of_ble_eq_true rfl) (vs := [some (.ref (G.1 100)), some (.int (M4 101 0)), some (.int 0), some (.int (((((um M 101 9 (((M 101 9) * 1103515245) + 12345)) 101 9).toUInt32 >>> ((8 : Int32).toUInt32 &&& Int32.toUInt32 31)).toInt32) - ((((um M 101 9 (((M 101 9) * 1103515245) + 12345)) 101 9).toUInt32 >>> ((8 : Int32).toUInt32 &&& Int32.toUInt32 31)).toInt32) / 6 * 6))]) rfl ?_
      refine a_aload_n eX8_sets_0 rfl ?_
      refine gX8_0 eX8_sets_1 fl_X8_7 ?_
      refine a_bipush (v := 10) eX8_sets_4 (by decide) ?_
      refine a_iconst (v := 4) eX8_sets_6 (by decide) ?_
      refine a_iload_n eX8_sets_7 rfl ?_
      refine a_imul eX8_sets_8 ?_
      refine a_iadd eX8_sets_9 ?_
      refine a_iload_n eX8_sets_10 rfl ?_
      refine a_iadd eX8_sets_11 ?_
      refine a_iload_n eX8_sets_12 rfl ?_
      obtain ⟨h5, hv⟩ := hv
      refine a_iast eX8_sets_13 sA101 kA101 h5 ?_
      refine a_nm (fun M6 eM6 => ?_)
      replace hv := hv M6 eM6
      refine a_vret eX8_sets_14 rfl (ret_v ?_)
      refine a_aload_n eX8_comes_26 rfl ?_
      refine a_iload eX8_comes_27 rfl ?_
      refine a_iconst (v := 1) eX8_comes_29 (by decide) ?_
      refine a_iload_n eX8_comes_30 rfl ?_
      refine qX8_105 rfl eX8_comes_31 (Nat.le_of_ble_eq_true rfl) ?_
      refine Tr.of rfl (Nat.le_of_ble_eq_true rfl) (vs := [some (.ref (G.1 100)), some (.int (M4 101 0)), some (.int 1), some (.int ((((M3 101 9).toUInt32 >>> ((8 : Int32).toUInt32 &&& Int32.toUInt32 31)).toInt32) - (((M3 101 9).toUInt32 >>> ((8 : Int32).toUInt32 &&& Int32.toUInt32 31)).toInt32) / 10 * 10))]) rfl ?_
      refine a_aload_n eX8_sets_0 rfl ?_
      refine gX8_0 eX8_sets_1 fl_X8_7 ?_
      refine a_bipush (v := 10) eX8_sets_4 (by decide) ?_
      refine a_iconst (v := 4) eX8_sets_6 (by decide) ?_
      refine a_iload_n eX8_sets_7 rfl ?_
      refine a_imul eX8_sets_8 ?_
      refine a_iadd eX8_sets_9 ?_
      refine a_iload_n eX8_sets_10 rfl ?_
      refine a_iadd eX8_sets_11 ?_
      refine a_iload_n eX8_sets_12 rfl ?_
      obtain ⟨h7, hv⟩ := hv
      refine a_iast eX8_sets_13 sA101 kA101 h7 ?_
      refine a_nm (fun M8 eM8 => ?_)
      replace hv := hv M8 eM8
      refine a_vret eX8_sets_14 rfl (ret_v ?_)
      refine a_aload_n eX8_comes_34 rfl ?_
      refine a_iload eX8_comes_35 rfl ?_
      refine a_iconst (v := 2) eX8_comes_37 (by decide) ?_
      refine a_iload_n eX8_comes_38 rfl ?_
      refine qX8_105 rfl eX8_comes_39 (Nat.le_of_ble_eq_true rfl) ?_
      refine Tr.of rfl (Nat.le_of_ble_eq_true rfl) (vs := [some (.ref (G.1 100)), some (.int (M4 101 0)), some (.int 2), some (.int (((((um M3 101 9 (((M3 101 9) * 1103515245) + 12345)) 101 9).toUInt32 >>> ((8 : Int32).toUInt32 &&& Int32.toUInt32 31)).toInt32) - ((((um M3 101 9 (((M3 101 9) * 1103515245) + 12345)) 101 9).toUInt32 >>> ((8 : Int32).toUInt32 &&& Int32.toUInt32 31)).toInt32) / 80 * 80))]) rfl ?_
      refine a_aload_n eX8_sets_0 rfl ?_
      refine gX8_0 eX8_sets_1 fl_X8_7 ?_
      refine a_bipush (v := 10) eX8_sets_4 (by decide) ?_
      refine a_iconst (v := 4) eX8_sets_6 (by decide) ?_
      refine a_iload_n eX8_sets_7 rfl ?_
      refine a_imul eX8_sets_8 ?_
      refine a_iadd eX8_sets_9 ?_
      refine a_iload_n eX8_sets_10 rfl ?_
      refine a_iadd eX8_sets_11 ?_
      refine a_iload_n eX8_sets_12 rfl ?_
      obtain ⟨h9, hv⟩ := hv
      refine a_iast eX8_sets_13 sA101 kA101 h9 ?_
      refine a_nm (fun M10 eM10 => ?_)
      replace hv := hv M10 eM10
      refine a_vret eX8_sets_14 rfl (ret_v ?_)
      refine a_aload_n eX8_comes_42 rfl ?_
      refine a_iload eX8_comes_43 rfl ?_
      refine a_iconst (v := 3) eX8_comes_45 (by decide) ?_
      refine a_iload eX8_comes_46 rfl ?_
      refine qX8_105 rfl eX8_comes_48 (Nat.le_of_ble_eq_true rfl) ?_
      refine Tr.of rfl (Nat.le_of_ble_eq_true rfl) (vs := [some (.ref (G.1 100)), some (.int (M4 101 0)), some (.int 3), some (.int ((((M4 101 9).toUInt32 >>> ((8 : Int32).toUInt32 &&& Int32.toUInt32 31)).toInt32) &&& (((1 : Int32) <<< ((M4 101 3) &&& 31)) - 1)))]) rfl ?_
      refine a_aload_n eX8_sets_0 rfl ?_
      refine gX8_0 eX8_sets_1 fl_X8_7 ?_
      refine a_bipush (v := 10) eX8_sets_4 (by decide) ?_
      refine a_iconst (v := 4) eX8_sets_6 (by decide) ?_
      refine a_iload_n eX8_sets_7 rfl ?_
      refine a_imul eX8_sets_8 ?_
      refine a_iadd eX8_sets_9 ?_
      refine a_iload_n eX8_sets_10 rfl ?_
      refine a_iadd eX8_sets_11 ?_
      refine a_iload_n eX8_sets_12 rfl ?_
      obtain ⟨h11, hv⟩ := hv
      refine a_iast eX8_sets_13 sA101 kA101 h11 ?_
      refine a_nm (fun M12 eM12 => ?_)
      replace hv := hv M12 eM12
      refine a_vret eX8_sets_14 rfl (ret_v ?_)
      refine a_vret eX8_comes_51 rfl (ret_v ?_)
      refine a_iinc (v := 1) (vs' := [some (.ref (G.1 100)), some (.int v1), some (.int (v2 + 1)), some (.int (((((um M 101 9 (((M 101 9) * 1103515245) + 12345)) 101 9).toUInt32 >>> ((8 : Int32).toUInt32 &&& Int32.toUInt32 31)).toInt32) - ((((um M 101 9 (((M 101 9) * 1103515245) + 12345)) 101 9).toUInt32 >>> ((8 : Int32).toUInt32 &&& Int32.toUInt32 31)).toInt32) / 6 * 6)), some (.int ((((M3 101 9).toUInt32 >>> ((8 : Int32).toUInt32 &&& Int32.toUInt32 31)).toInt32) - (((M3 101 9).toUInt32 >>> ((8 : Int32).toUInt32 &&& Int32.toUInt32 31)).toInt32) / 10 * 10)), some (.int (((((um M3 101 9 (((M3 101 9) * 1103515245) + 12345)) 101 9).toUInt32 >>> ((8 : Int32).toUInt32 &&& Int32.toUInt32 31)).toInt32) - ((((um M3 101 9 (((M3 101 9) * 1103515245) + 12345)) 101 9).toUInt32 >>> ((8 : Int32).toUInt32 &&& Int32.toUInt32 31)).toInt32) / 80 * 80))]) eX8_deal_83 rfl rfl (by decide) rfl ?_
      refine a_goto (tgt := 17) eX8_deal_86 (by decide) ?_
      exact a_weak [true, true, true, false, false, false] rfl rfl hv
theorem tX8_seed {l : Launch} {G : GT} {d : Nat} {M : Mem} {R : Option Value → Mem → Prop} {v1 : Int32} (hv : R (some (.int (M 101 9))) (um M 101 9 v1)) : Tr l G (d + 4) mX8_seed [.ref (G.1 100), .int v1] M R := by
  refine Tr.of rfl (Nat.le_of_ble_eq_true rfl) (vs := [some (.ref (G.1 100)), some (.int v1)]) rfl ?_
  refine a_aload_n eX8_seed_0 rfl ?_
  refine a_bipush (v := 9) eX8_seed_1 (by decide) ?_
  refine a_iload_n eX8_seed_3 rfl ?_
  refine qX8_141 rfl eX8_seed_4 (Nat.le_of_ble_eq_true rfl) ?_
  refine Tr.of rfl (Nat.le_of_ble_eq_true rfl) (vs := [some (.ref (G.1 100)), some (.int 9), some (.int v1), none]) rfl ?_
  refine a_aload_n eX8_changes_0 rfl ?_
  refine gX8_0 eX8_changes_1 fl_X8_7 ?_
  refine a_iload_n eX8_changes_4 rfl ?_
  refine a_ialdc 9 eX8_changes_5 sA101 kA101 (by decide) (by decide) ?_
  refine a_istore_n (vs' := [some (.ref (G.1 100)), some (.int 9), some (.int v1), some (.int (M 101 9))]) eX8_changes_6 rfl (Nat.le_of_ble_eq_true rfl) rfl ?_
  refine a_aload_n eX8_changes_7 rfl ?_
  refine gX8_0 eX8_changes_8 fl_X8_7 ?_
  refine a_iload_n eX8_changes_11 rfl ?_
  refine a_iload_n eX8_changes_12 rfl ?_
  refine a_iastc 9 eX8_changes_13 sA101 kA101 (by decide) (by decide) ?_
  refine a_iload_n eX8_changes_14 rfl ?_
  refine a_iret eX8_changes_15 rfl rfl (ret_i ?_)
  exact a_iret eX8_seed_7 rfl rfl hv
theorem tX8_isRead {l : Launch} {G : GT} {d : Nat} {M : Mem} {R : Option Value → Mem → Prop} {v1 : Int32} {v2 : Int32} {v3 : Int32} (hv : At l G (d + 4) mX8_isRead 6 [some (.ref (G.1 100)), some (.int v1), some (.int v2), some (.int v3), some (.int 0), some (.int 0)] [] M R) : Tr l G (d + 4) mX8_isRead [.ref (G.1 100), .int v1, .int v2, .int v3] M R := by
  refine Tr.of rfl (Nat.le_of_ble_eq_true rfl) (vs := [some (.ref (G.1 100)), some (.int v1), some (.int v2), some (.int v3), none, none]) rfl ?_
  refine a_iconst (v := 0) eX8_isRead_0 (by decide) ?_
  refine a_istore (vs' := [some (.ref (G.1 100)), some (.int v1), some (.int v2), some (.int v3), some (.int 0), none]) eX8_isRead_1 rfl (Nat.le_of_ble_eq_true rfl) rfl ?_
  refine a_iconst (v := 0) eX8_isRead_3 (by decide) ?_
  refine a_istore (vs' := [some (.ref (G.1 100)), some (.int v1), some (.int v2), some (.int v3), some (.int 0), some (.int 0)]) eX8_isRead_4 rfl (Nat.le_of_ble_eq_true rfl) rfl ?_
  exact a_weak [true, true, true, true, true, true] rfl rfl hv
theorem bX8_isRead_6 {l : Launch} {G : GT} {d : Nat} {M : Mem} {R : Option Value → Mem → Prop} {v1 : Int32} {v2 : Int32} {v3 : Int32} {v4 : Int32} {v5 : Int32} (hv : ((M 101 0) ≤ v5 → narrow .boolean (.int v4) = .int v4 ∧ R (some (.int v4)) M) ∧ (¬ ((M 101 0) ≤ v5) → (((v1 >>> (v5 &&& 31)) &&& 1) = 1 → Tr l G (d + 3) mX8_canRead [.ref (G.1 100), .int v5, .int v3] M (kI fun q M' => At l G (d + 4) mX8_isRead 35 [some (.ref (G.1 100)), some (.int v1), some (.int v2), some (.int v3), none, some (.int v5)] [.int q, .int v4] M' R)) ∧ (¬ (((v1 >>> (v5 &&& 31)) &&& 1) = 1) → At l G (d + 4) mX8_isRead 6 [some (.ref (G.1 100)), some (.int v1), some (.int v2), some (.int v3), some (.int (v4 ||| 0)), some (.int (v5 + 1))] [] M R))) : At l G (d + 4) mX8_isRead 6 [some (.ref (G.1 100)), some (.int v1), some (.int v2), some (.int v3), some (.int v4), some (.int v5)] [] M R := by
  refine a_iload eX8_isRead_6 rfl ?_
  refine a_aload_n eX8_isRead_8 rfl ?_
  refine gX8_0 eX8_isRead_9 fl_X8_7 ?_
  refine a_iconst (v := 0) eX8_isRead_12 (by decide) ?_
  refine a_ialdc 0 eX8_isRead_13 sA101 kA101 (by decide) (by decide) ?_
  refine a_icmp_ge (tgt := 56) eX8_isRead_14 (by decide) (fun w1 => ?_) (fun w1 => ?_)
  · replace hv := hv.1 w1
    refine a_iload eX8_isRead_56 rfl ?_
    obtain ⟨h2, hv⟩ := hv
    exact a_iret eX8_isRead_58 rfl h2 hv
  · replace hv := hv.2 w1
    refine a_iload eX8_isRead_17 rfl ?_
    refine a_iload_n eX8_isRead_19 rfl ?_
    refine a_iload eX8_isRead_20 rfl ?_
    refine qX8_149 rfl eX8_isRead_22 (Nat.le_of_ble_eq_true rfl) ?_
    refine Tr.of rfl (Nat.le_of_ble_eq_true rfl) (vs := [some (.int v1), some (.int v5)]) rfl ?_
    refine a_iload_n eX8_isAmong_0 rfl ?_
    refine a_iload_n eX8_isAmong_1 rfl ?_
    refine a_ishr eX8_isAmong_2 ?_
    refine a_iconst (v := 1) eX8_isAmong_3 (by decide) ?_
    refine a_iand eX8_isAmong_4 ?_
    refine a_iconst (v := 1) eX8_isAmong_5 (by decide) ?_
    refine a_icmp_ne (tgt := 13) eX8_isAmong_6 (by decide) (fun w3 => ?_) (fun w3 => ?_)
    · replace hv := hv.2 w3
      refine a_iconst (v := 0) eX8_isAmong_13 (by decide) ?_
      refine a_iret eX8_isAmong_14 rfl rfl (ret_i ?_)
      refine a_if_eq (tgt := 46) eX8_isRead_25 (by decide) (fun _ => ?_) (fun h => absurd h (by decide))
      refine a_iconst (v := 0) eX8_isRead_46 (by decide) ?_
      refine a_ior eX8_isRead_47 ?_
      refine a_istore (vs' := [some (.ref (G.1 100)), some (.int v1), some (.int v2), some (.int v3), some (.int (v4 ||| 0)), some (.int v5)]) eX8_isRead_48 rfl (Nat.le_of_ble_eq_true rfl) rfl ?_
      refine a_iinc (v := 1) (vs' := [some (.ref (G.1 100)), some (.int v1), some (.int v2), some (.int v3), some (.int (v4 ||| 0)), some (.int (v5 + 1))]) eX8_isRead_50 rfl rfl (by decide) rfl ?_
      refine a_goto (tgt := 6) eX8_isRead_53 (by decide) ?_
      exact a_weak [true, true, true, true, true, true] rfl rfl hv
    · replace hv := hv.1 w3
      refine a_iconst (v := 1) eX8_isAmong_9 (by decide) ?_
      refine a_goto (tgt := 14) eX8_isAmong_10 (by decide) ?_
      refine a_iret eX8_isAmong_14 rfl rfl (ret_i ?_)
      refine a_if_eq (tgt := 46) eX8_isRead_25 (by decide) (fun h => absurd h (by decide)) (fun _ => ?_)
      refine a_aload_n eX8_isRead_28 rfl ?_
      refine a_iload eX8_isRead_29 rfl ?_
      refine a_iload_n eX8_isRead_31 rfl ?_
      exact qX8_128 rfl eX8_isRead_32 (Nat.le_of_ble_eq_true rfl) (tr_I [true, true, true, true, false, true] rfl rfl hv)
theorem bX8_isRead_35 {l : Launch} {G : GT} {d : Nat} {M : Mem} {R : Option Value → Mem → Prop} {v1 : Int32} {v2 : Int32} {v3 : Int32} {v5 : Int32} {r : Int32} {t1 : Int32} (hv : (((r >>> (v2 &&& 31)) &&& 1) = 1 → At l G (d + 4) mX8_isRead 6 [some (.ref (G.1 100)), some (.int v1), some (.int v2), some (.int v3), some (.int (t1 ||| 1)), some (.int (v5 + 1))] [] M R) ∧ (¬ (((r >>> (v2 &&& 31)) &&& 1) = 1) → At l G (d + 4) mX8_isRead 6 [some (.ref (G.1 100)), some (.int v1), some (.int v2), some (.int v3), some (.int (t1 ||| 0)), some (.int (v5 + 1))] [] M R)) : At l G (d + 4) mX8_isRead 35 [some (.ref (G.1 100)), some (.int v1), some (.int v2), some (.int v3), none, some (.int v5)] [.int r, .int t1] M R := by
  refine a_iload_n eX8_isRead_35 rfl ?_
  refine qX8_149 rfl eX8_isRead_36 (Nat.le_of_ble_eq_true rfl) ?_
  refine Tr.of rfl (Nat.le_of_ble_eq_true rfl) (vs := [some (.int r), some (.int v2)]) rfl ?_
  refine a_iload_n eX8_isAmong_0 rfl ?_
  refine a_iload_n eX8_isAmong_1 rfl ?_
  refine a_ishr eX8_isAmong_2 ?_
  refine a_iconst (v := 1) eX8_isAmong_3 (by decide) ?_
  refine a_iand eX8_isAmong_4 ?_
  refine a_iconst (v := 1) eX8_isAmong_5 (by decide) ?_
  refine a_icmp_ne (tgt := 13) eX8_isAmong_6 (by decide) (fun w1 => ?_) (fun w1 => ?_)
  · replace hv := hv.2 w1
    refine a_iconst (v := 0) eX8_isAmong_13 (by decide) ?_
    refine a_iret eX8_isAmong_14 rfl rfl (ret_i ?_)
    refine a_if_eq (tgt := 46) eX8_isRead_39 (by decide) (fun _ => ?_) (fun h => absurd h (by decide))
    refine a_iconst (v := 0) eX8_isRead_46 (by decide) ?_
    refine a_ior eX8_isRead_47 ?_
    refine a_istore (vs' := [some (.ref (G.1 100)), some (.int v1), some (.int v2), some (.int v3), some (.int (t1 ||| 0)), some (.int v5)]) eX8_isRead_48 rfl (Nat.le_of_ble_eq_true rfl) rfl ?_
    refine a_iinc (v := 1) (vs' := [some (.ref (G.1 100)), some (.int v1), some (.int v2), some (.int v3), some (.int (t1 ||| 0)), some (.int (v5 + 1))]) eX8_isRead_50 rfl rfl (by decide) rfl ?_
    refine a_goto (tgt := 6) eX8_isRead_53 (by decide) ?_
    exact a_weak [true, true, true, true, true, true] rfl rfl hv
  · replace hv := hv.1 w1
    refine a_iconst (v := 1) eX8_isAmong_9 (by decide) ?_
    refine a_goto (tgt := 14) eX8_isAmong_10 (by decide) ?_
    refine a_iret eX8_isAmong_14 rfl rfl (ret_i ?_)
    refine a_if_eq (tgt := 46) eX8_isRead_39 (by decide) (fun h => absurd h (by decide)) (fun _ => ?_)
    refine a_iconst (v := 1) eX8_isRead_42 (by decide) ?_
    refine a_goto (tgt := 47) eX8_isRead_43 (by decide) ?_
    refine a_ior eX8_isRead_47 ?_
    refine a_istore (vs' := [some (.ref (G.1 100)), some (.int v1), some (.int v2), some (.int v3), some (.int (t1 ||| 1)), some (.int v5)]) eX8_isRead_48 rfl (Nat.le_of_ble_eq_true rfl) rfl ?_
    refine a_iinc (v := 1) (vs' := [some (.ref (G.1 100)), some (.int v1), some (.int v2), some (.int v3), some (.int (t1 ||| 1)), some (.int (v5 + 1))]) eX8_isRead_50 rfl rfl (by decide) rfl ?_
    refine a_goto (tgt := 6) eX8_isRead_53 (by decide) ?_
    exact a_weak [true, true, true, true, true, true] rfl rfl hv
theorem tX8_walks {l : Launch} {G : GT} {d : Nat} {M : Mem} {R : Option Value → Mem → Prop} {v1 : Int32} {v2 : Int32} (hv : vp_in ((10 + (4 * v1)) + 1) 3084 ∧ vp_in (42 + (3 * v2)) 3084 ∧ ((M 101 (ix (42 + (3 * v2)))) = (M 101 (ix ((10 + (4 * v1)) + 1))) → vp_in ((42 + (3 * v2)) + 2) 3084 ∧ ((M 101 (ix ((42 + (3 * v2)) + 2))) = 1 → Tr l G (d + 3) mX8_those [.ref (G.1 100), .int (M 101 (ix ((10 + (4 * v1)) + 1)))] M (kI fun q M' => At l G (d + 4) mX8_walks 30 [some (.ref (G.1 100)), some (.int v1), some (.int v2), some (.int (M 101 (ix ((10 + (4 * v1)) + 1))))] [.int q, .ref (G.1 100)] M' R)) ∧ (¬ ((M 101 (ix ((42 + (3 * v2)) + 2))) = 1) → R none M)) ∧ (¬ ((M 101 (ix (42 + (3 * v2)))) = (M 101 (ix ((10 + (4 * v1)) + 1)))) → vp_in ((42 + (3 * v2)) + 1) 3084 ∧ ((M 101 (ix ((42 + (3 * v2)) + 1))) = (M 101 (ix ((10 + (4 * v1)) + 1))) → vp_in ((42 + (3 * v2)) + 2) 3084 ∧ ((M 101 (ix ((42 + (3 * v2)) + 2))) = 1 → Tr l G (d + 3) mX8_those [.ref (G.1 100), .int (M 101 (ix ((10 + (4 * v1)) + 1)))] M (kI fun q M' => At l G (d + 4) mX8_walks 30 [some (.ref (G.1 100)), some (.int v1), some (.int v2), some (.int (M 101 (ix ((10 + (4 * v1)) + 1))))] [.int q, .ref (G.1 100)] M' R)) ∧ (¬ ((M 101 (ix ((42 + (3 * v2)) + 2))) = 1) → R none M)) ∧ (¬ ((M 101 (ix ((42 + (3 * v2)) + 1))) = (M 101 (ix ((10 + (4 * v1)) + 1)))) → R none M))) : Tr l G (d + 4) mX8_walks [.ref (G.1 100), .int v1, .int v2] M R := by
  refine Tr.of rfl (Nat.le_of_ble_eq_true rfl) (vs := [some (.ref (G.1 100)), some (.int v1), some (.int v2), none]) rfl ?_
  refine a_aload_n eX8_walks_0 rfl ?_
  refine a_iload_n eX8_walks_1 rfl ?_
  refine a_iconst (v := 1) eX8_walks_2 (by decide) ?_
  refine qX8_86 rfl eX8_walks_3 (Nat.le_of_ble_eq_true rfl) ?_
  refine Tr.of rfl (Nat.le_of_ble_eq_true rfl) (vs := [some (.ref (G.1 100)), some (.int v1), some (.int 1)]) rfl ?_
  refine a_aload_n eX8_of_0 rfl ?_
  refine gX8_0 eX8_of_1 fl_X8_7 ?_
  refine a_bipush (v := 10) eX8_of_4 (by decide) ?_
  refine a_iconst (v := 4) eX8_of_6 (by decide) ?_
  refine a_iload_n eX8_of_7 rfl ?_
  refine a_imul eX8_of_8 ?_
  refine a_iadd eX8_of_9 ?_
  refine a_iload_n eX8_of_10 rfl ?_
  refine a_iadd eX8_of_11 ?_
  obtain ⟨h1, hv⟩ := hv
  refine a_iald eX8_of_12 sA101 kA101 h1 ?_
  refine a_iret eX8_of_13 rfl rfl (ret_i ?_)
  refine a_istore_n (vs' := [some (.ref (G.1 100)), some (.int v1), some (.int v2), some (.int (M 101 (ix ((10 + (4 * v1)) + 1))))]) eX8_walks_6 rfl (Nat.le_of_ble_eq_true rfl) rfl ?_
  refine a_aload_n eX8_walks_7 rfl ?_
  refine a_iload_n eX8_walks_8 rfl ?_
  refine a_iload_n eX8_walks_9 rfl ?_
  refine qX8_82 rfl eX8_walks_10 (Nat.le_of_ble_eq_true rfl) ?_
  refine Tr.of rfl (Nat.le_of_ble_eq_true rfl) (vs := [some (.ref (G.1 100)), some (.int v2), some (.int (M 101 (ix ((10 + (4 * v1)) + 1))))]) rfl ?_
  refine a_aload_n eX8_touches_0 rfl ?_
  refine a_iload_n eX8_touches_1 rfl ?_
  refine qX8_75 rfl eX8_touches_2 (Nat.le_of_ble_eq_true rfl) ?_
  refine Tr.of rfl (Nat.le_of_ble_eq_true rfl) (vs := [some (.ref (G.1 100)), some (.int v2)]) rfl ?_
  refine a_aload_n eX8_from_0 rfl ?_
  refine gX8_0 eX8_from_1 fl_X8_7 ?_
  refine a_bipush (v := 42) eX8_from_4 (by decide) ?_
  refine a_iconst (v := 3) eX8_from_6 (by decide) ?_
  refine a_iload_n eX8_from_7 rfl ?_
  refine a_imul eX8_from_8 ?_
  refine a_iadd eX8_from_9 ?_
  obtain ⟨h2, hv⟩ := hv
  refine a_iald eX8_from_10 sA101 kA101 h2 ?_
  refine a_iret eX8_from_11 rfl rfl (ret_i ?_)
  refine a_iload_n eX8_touches_5 rfl ?_
  refine a_icmp_eq (tgt := 18) eX8_touches_6 (by decide) (fun w3 => ?_) (fun w3 => ?_)
  · replace hv := hv.1 w3
    refine a_iconst (v := 1) eX8_touches_18 (by decide) ?_
    refine a_goto (tgt := 23) eX8_touches_19 (by decide) ?_
    refine a_iret eX8_touches_23 rfl rfl (ret_i ?_)
    refine a_if_eq (tgt := 38) eX8_walks_13 (by decide) (fun h => absurd h (by decide)) (fun _ => ?_)
    refine a_aload_n eX8_walks_16 rfl ?_
    refine a_iload_n eX8_walks_17 rfl ?_
    refine qX8_159 rfl eX8_walks_18 (Nat.le_of_ble_eq_true rfl) ?_
    refine Tr.of rfl (Nat.le_of_ble_eq_true rfl) (vs := [some (.ref (G.1 100)), some (.int v2)]) rfl ?_
    refine a_aload_n eX8_stands_0 rfl ?_
    refine gX8_0 eX8_stands_1 fl_X8_7 ?_
    refine a_bipush (v := 42) eX8_stands_4 (by decide) ?_
    refine a_iconst (v := 3) eX8_stands_6 (by decide) ?_
    refine a_iload_n eX8_stands_7 rfl ?_
    refine a_imul eX8_stands_8 ?_
    refine a_iadd eX8_stands_9 ?_
    refine a_iconst (v := 2) eX8_stands_10 (by decide) ?_
    refine a_iadd eX8_stands_11 ?_
    obtain ⟨h4, hv⟩ := hv
    refine a_iald eX8_stands_12 sA101 kA101 h4 ?_
    refine a_iconst (v := 1) eX8_stands_13 (by decide) ?_
    refine a_icmp_ne (tgt := 21) eX8_stands_14 (by decide) (fun w5 => ?_) (fun w5 => ?_)
    · replace hv := hv.2 w5
      refine a_iconst (v := 0) eX8_stands_21 (by decide) ?_
      refine a_iret eX8_stands_22 rfl rfl (ret_i ?_)
      refine a_if_eq (tgt := 38) eX8_walks_21 (by decide) (fun _ => ?_) (fun h => absurd h (by decide))
      exact a_vret eX8_walks_38 rfl hv
    · replace hv := hv.1 w5
      refine a_iconst (v := 1) eX8_stands_17 (by decide) ?_
      refine a_goto (tgt := 22) eX8_stands_18 (by decide) ?_
      refine a_iret eX8_stands_22 rfl rfl (ret_i ?_)
      refine a_if_eq (tgt := 38) eX8_walks_21 (by decide) (fun h => absurd h (by decide)) (fun _ => ?_)
      refine a_aload_n eX8_walks_24 rfl ?_
      refine a_aload_n eX8_walks_25 rfl ?_
      refine a_iload_n eX8_walks_26 rfl ?_
      exact qX8_162 rfl eX8_walks_27 (Nat.le_of_ble_eq_true rfl) (tr_I [true, true, true, true] rfl rfl hv)
  · replace hv := hv.2 w3
    refine a_aload_n eX8_touches_9 rfl ?_
    refine a_iload_n eX8_touches_10 rfl ?_
    refine qX8_79 rfl eX8_touches_11 (Nat.le_of_ble_eq_true rfl) ?_
    refine Tr.of rfl (Nat.le_of_ble_eq_true rfl) (vs := [some (.ref (G.1 100)), some (.int v2)]) rfl ?_
    refine a_aload_n eX8_to_0 rfl ?_
    refine gX8_0 eX8_to_1 fl_X8_7 ?_
    refine a_bipush (v := 42) eX8_to_4 (by decide) ?_
    refine a_iconst (v := 3) eX8_to_6 (by decide) ?_
    refine a_iload_n eX8_to_7 rfl ?_
    refine a_imul eX8_to_8 ?_
    refine a_iadd eX8_to_9 ?_
    refine a_iconst (v := 1) eX8_to_10 (by decide) ?_
    refine a_iadd eX8_to_11 ?_
    obtain ⟨h6, hv⟩ := hv
    refine a_iald eX8_to_12 sA101 kA101 h6 ?_
    refine a_iret eX8_to_13 rfl rfl (ret_i ?_)
    refine a_iload_n eX8_touches_14 rfl ?_
    refine a_icmp_ne (tgt := 22) eX8_touches_15 (by decide) (fun w7 => ?_) (fun w7 => ?_)
    · replace hv := hv.2 w7
      refine a_iconst (v := 0) eX8_touches_22 (by decide) ?_
      refine a_iret eX8_touches_23 rfl rfl (ret_i ?_)
      refine a_if_eq (tgt := 38) eX8_walks_13 (by decide) (fun _ => ?_) (fun h => absurd h (by decide))
      exact a_vret eX8_walks_38 rfl hv
    · replace hv := hv.1 w7
      refine a_iconst (v := 1) eX8_touches_18 (by decide) ?_
      refine a_goto (tgt := 23) eX8_touches_19 (by decide) ?_
      refine a_iret eX8_touches_23 rfl rfl (ret_i ?_)
      refine a_if_eq (tgt := 38) eX8_walks_13 (by decide) (fun h => absurd h (by decide)) (fun _ => ?_)
      refine a_aload_n eX8_walks_16 rfl ?_
      refine a_iload_n eX8_walks_17 rfl ?_
      refine qX8_159 rfl eX8_walks_18 (Nat.le_of_ble_eq_true rfl) ?_
      refine Tr.of rfl (Nat.le_of_ble_eq_true rfl) (vs := [some (.ref (G.1 100)), some (.int v2)]) rfl ?_
      refine a_aload_n eX8_stands_0 rfl ?_
      refine gX8_0 eX8_stands_1 fl_X8_7 ?_
      refine a_bipush (v := 42) eX8_stands_4 (by decide) ?_
      refine a_iconst (v := 3) eX8_stands_6 (by decide) ?_
      refine a_iload_n eX8_stands_7 rfl ?_
      refine a_imul eX8_stands_8 ?_
      refine a_iadd eX8_stands_9 ?_
      refine a_iconst (v := 2) eX8_stands_10 (by decide) ?_
      refine a_iadd eX8_stands_11 ?_
      obtain ⟨h8, hv⟩ := hv
      refine a_iald eX8_stands_12 sA101 kA101 h8 ?_
      refine a_iconst (v := 1) eX8_stands_13 (by decide) ?_
      refine a_icmp_ne (tgt := 21) eX8_stands_14 (by decide) (fun w9 => ?_) (fun w9 => ?_)
      · replace hv := hv.2 w9
        refine a_iconst (v := 0) eX8_stands_21 (by decide) ?_
        refine a_iret eX8_stands_22 rfl rfl (ret_i ?_)
        refine a_if_eq (tgt := 38) eX8_walks_21 (by decide) (fun _ => ?_) (fun h => absurd h (by decide))
        exact a_vret eX8_walks_38 rfl hv
      · replace hv := hv.1 w9
        refine a_iconst (v := 1) eX8_stands_17 (by decide) ?_
        refine a_goto (tgt := 22) eX8_stands_18 (by decide) ?_
        refine a_iret eX8_stands_22 rfl rfl (ret_i ?_)
        refine a_if_eq (tgt := 38) eX8_walks_21 (by decide) (fun h => absurd h (by decide)) (fun _ => ?_)
        refine a_aload_n eX8_walks_24 rfl ?_
        refine a_aload_n eX8_walks_25 rfl ?_
        refine a_iload_n eX8_walks_26 rfl ?_
        exact qX8_162 rfl eX8_walks_27 (Nat.le_of_ble_eq_true rfl) (tr_I [true, true, true, true] rfl rfl hv)
theorem bX8_walks_30 {l : Launch} {G : GT} {d : Nat} {M : Mem} {R : Option Value → Mem → Prop} {v1 : Int32} {v2 : Int32} {v3 : Int32} {r : Int32} (hv : Tr l G (d + 3) mX8_isRead [.ref (G.1 100), .int r, .int v2, .int v3] M (kI fun q M' => At l G (d + 4) mX8_walks 35 [some (.ref (G.1 100)), some (.int v1), some (.int v2), some (.int v3)] [.int q] M' R)) : At l G (d + 4) mX8_walks 30 [some (.ref (G.1 100)), some (.int v1), some (.int v2), some (.int v3)] [.int r, .ref (G.1 100)] M R := by
  refine a_iload_n eX8_walks_30 rfl ?_
  refine a_iload_n eX8_walks_31 rfl ?_
  exact qX8_173 rfl eX8_walks_32 (Nat.le_of_ble_eq_true rfl) (tr_I [true, true, true, true] rfl rfl hv)
theorem bX8_walks_35 {l : Launch} {G : GT} {d : Nat} {M : Mem} {R : Option Value → Mem → Prop} {v1 : Int32} {v2 : Int32} {v3 : Int32} {r : Int32} (hv : (r = 0 → R none M) ∧ (¬ (r = 0) → vp_in (42 + (3 * v2)) 3084 ∧ ((M 101 (ix (42 + (3 * v2)))) = v3 → vp_in ((42 + (3 * v2)) + 1) 3084 ∧ vp_in ((10 + (4 * v1)) + 1) 3084 ∧ ∀ M18 : Mem, M18 = um M 101 (ix ((10 + (4 * v1)) + 1)) (M 101 (ix ((42 + (3 * v2)) + 1))) → vp_in ((10 + (4 * v1)) + 0) 3084 ∧ (((um M18 101 6 ((M18 101 6) + 1)) 101 (ix ((10 + (4 * v1)) + 0))) = 2 → R none (um M18 101 6 ((M18 101 6) + 1))) ∧ (¬ (((um M18 101 6 ((M18 101 6) + 1)) 101 (ix ((10 + (4 * v1)) + 0))) = 2) → vp_in ((10 + (4 * v1)) + 0) 3084 ∧ (((um M18 101 6 ((M18 101 6) + 1)) 101 (ix ((10 + (4 * v1)) + 0))) = 4 → R none (um M18 101 6 ((M18 101 6) + 1))) ∧ (¬ (((um M18 101 6 ((M18 101 6) + 1)) 101 (ix ((10 + (4 * v1)) + 0))) = 4) → vp_in ((10 + (4 * v1)) + 3) 3084 ∧ (((((um M18 101 6 ((M18 101 6) + 1)) 101 (ix ((10 + (4 * v1)) + 3))) >>> (v2 &&& 31)) &&& 1) = 1 → R none (um M18 101 6 ((M18 101 6) + 1))) ∧ (¬ (((((um M18 101 6 ((M18 101 6) + 1)) 101 (ix ((10 + (4 * v1)) + 3))) >>> (v2 &&& 31)) &&& 1) = 1) → vp_in ((10 + (4 * v1)) + 3) 3084 ∧ vp_in ((10 + (4 * v1)) + 3) 3084 ∧ ∀ M27 : Mem, M27 = um (um M18 101 6 ((M18 101 6) + 1)) 101 (ix ((10 + (4 * v1)) + 3)) (((um M18 101 6 ((M18 101 6) + 1)) 101 (ix ((10 + (4 * v1)) + 3))) ||| ((1 : Int32) <<< (v2 &&& 31))) → R none (um M27 101 7 ((M27 101 7) + 1)))))) ∧ (¬ ((M 101 (ix (42 + (3 * v2)))) = v3) → vp_in (42 + (3 * v2)) 3084 ∧ vp_in ((10 + (4 * v1)) + 1) 3084 ∧ ∀ M6 : Mem, M6 = um M 101 (ix ((10 + (4 * v1)) + 1)) (M 101 (ix (42 + (3 * v2)))) → vp_in ((10 + (4 * v1)) + 0) 3084 ∧ (((um M6 101 6 ((M6 101 6) + 1)) 101 (ix ((10 + (4 * v1)) + 0))) = 2 → R none (um M6 101 6 ((M6 101 6) + 1))) ∧ (¬ (((um M6 101 6 ((M6 101 6) + 1)) 101 (ix ((10 + (4 * v1)) + 0))) = 2) → vp_in ((10 + (4 * v1)) + 0) 3084 ∧ (((um M6 101 6 ((M6 101 6) + 1)) 101 (ix ((10 + (4 * v1)) + 0))) = 4 → R none (um M6 101 6 ((M6 101 6) + 1))) ∧ (¬ (((um M6 101 6 ((M6 101 6) + 1)) 101 (ix ((10 + (4 * v1)) + 0))) = 4) → vp_in ((10 + (4 * v1)) + 3) 3084 ∧ (((((um M6 101 6 ((M6 101 6) + 1)) 101 (ix ((10 + (4 * v1)) + 3))) >>> (v2 &&& 31)) &&& 1) = 1 → R none (um M6 101 6 ((M6 101 6) + 1))) ∧ (¬ (((((um M6 101 6 ((M6 101 6) + 1)) 101 (ix ((10 + (4 * v1)) + 3))) >>> (v2 &&& 31)) &&& 1) = 1) → vp_in ((10 + (4 * v1)) + 3) 3084 ∧ vp_in ((10 + (4 * v1)) + 3) 3084 ∧ ∀ M15 : Mem, M15 = um (um M6 101 6 ((M6 101 6) + 1)) 101 (ix ((10 + (4 * v1)) + 3)) (((um M6 101 6 ((M6 101 6) + 1)) 101 (ix ((10 + (4 * v1)) + 3))) ||| ((1 : Int32) <<< (v2 &&& 31))) → R none (um M15 101 7 ((M15 101 7) + 1)))))))) : At l G (d + 4) mX8_walks 35 [some (.ref (G.1 100)), some (.int v1), some (.int v2), some (.int v3)] [.int r] M R := by
  refine a_if_ne (tgt := 39) eX8_walks_35 (by decide) (fun w1 => ?_) (fun w1 => ?_)
  · replace hv := hv.2 w1
    refine a_aload_n eX8_walks_39 rfl ?_
    refine a_iload_n eX8_walks_40 rfl ?_
    refine a_iconst (v := 1) eX8_walks_41 (by decide) ?_
    refine a_aload_n eX8_walks_42 rfl ?_
    refine a_iload_n eX8_walks_43 rfl ?_
    refine a_iload_n eX8_walks_44 rfl ?_
    refine qX8_177 rfl eX8_walks_45 (Nat.le_of_ble_eq_true rfl) ?_
    refine Tr.of rfl (Nat.le_of_ble_eq_true rfl) (vs := [some (.ref (G.1 100)), some (.int v2), some (.int v3)]) rfl ?_
    refine a_aload_n eX8_otherEnd_0 rfl ?_
    refine a_iload_n eX8_otherEnd_1 rfl ?_
    refine qX8_75 rfl eX8_otherEnd_2 (Nat.le_of_ble_eq_true rfl) ?_
    refine Tr.of rfl (Nat.le_of_ble_eq_true rfl) (vs := [some (.ref (G.1 100)), some (.int v2)]) rfl ?_
    refine a_aload_n eX8_from_0 rfl ?_
    refine gX8_0 eX8_from_1 fl_X8_7 ?_
    refine a_bipush (v := 42) eX8_from_4 (by decide) ?_
    refine a_iconst (v := 3) eX8_from_6 (by decide) ?_
    refine a_iload_n eX8_from_7 rfl ?_
    refine a_imul eX8_from_8 ?_
    refine a_iadd eX8_from_9 ?_
    obtain ⟨h2, hv⟩ := hv
    refine a_iald eX8_from_10 sA101 kA101 h2 ?_
    refine a_iret eX8_from_11 rfl rfl (ret_i ?_)
    refine a_iload_n eX8_otherEnd_5 rfl ?_
    refine a_icmp_ne (tgt := 17) eX8_otherEnd_6 (by decide) (fun w3 => ?_) (fun w3 => ?_)
    · replace hv := hv.2 w3
      refine a_aload_n eX8_otherEnd_17 rfl ?_
      refine a_iload_n eX8_otherEnd_18 rfl ?_
      refine qX8_75 rfl eX8_otherEnd_19 (Nat.le_of_ble_eq_true rfl) ?_
      refine Tr.of rfl (Nat.le_of_ble_eq_true rfl) (vs := [some (.ref (G.1 100)), some (.int v2)]) rfl ?_
      refine a_aload_n eX8_from_0 rfl ?_
      refine gX8_0 eX8_from_1 fl_X8_7 ?_
      refine a_bipush (v := 42) eX8_from_4 (by decide) ?_
      refine a_iconst (v := 3) eX8_from_6 (by decide) ?_
      refine a_iload_n eX8_from_7 rfl ?_
      refine a_imul eX8_from_8 ?_
      refine a_iadd eX8_from_9 ?_
      obtain ⟨h4, hv⟩ := hv
      refine a_iald eX8_from_10 sA101 kA101 h4 ?_
      refine a_iret eX8_from_11 rfl rfl (ret_i ?_)
      refine a_iret eX8_otherEnd_22 rfl rfl (ret_i ?_)
      refine qX8_105 rfl eX8_walks_48 (Nat.le_of_ble_eq_true rfl) ?_
      refine Tr.of rfl (Nat.le_of_ble_eq_true rfl) (vs := [some (.ref (G.1 100)), some (.int v1), some (.int 1), some (.int (M 101 (ix (42 + (3 * v2)))))]) rfl ?_
      refine a_aload_n eX8_sets_0 rfl ?_
      refine gX8_0 eX8_sets_1 fl_X8_7 ?_
      refine a_bipush (v := 10) eX8_sets_4 (by decide) ?_
      refine a_iconst (v := 4) eX8_sets_6 (by decide) ?_
      refine a_iload_n eX8_sets_7 rfl ?_
      refine a_imul eX8_sets_8 ?_
      refine a_iadd eX8_sets_9 ?_
      refine a_iload_n eX8_sets_10 rfl ?_
      refine a_iadd eX8_sets_11 ?_
      refine a_iload_n eX8_sets_12 rfl ?_
      obtain ⟨h5, hv⟩ := hv
      refine a_iast eX8_sets_13 sA101 kA101 h5 ?_
      refine a_nm (fun M6 eM6 => ?_)
      replace hv := hv M6 eM6
      refine a_vret eX8_sets_14 rfl (ret_v ?_)
      refine a_aload_n eX8_walks_51 rfl ?_
      refine gX8_0 eX8_walks_52 fl_X8_7 ?_
      refine a_bipush (v := 6) eX8_walks_55 (by decide) ?_
      refine a_dup2 eX8_walks_57 rfl rfl ?_
      refine a_ialdc 6 eX8_walks_58 sA101 kA101 (by decide) (by decide) ?_
      refine a_iconst (v := 1) eX8_walks_59 (by decide) ?_
      refine a_iadd eX8_walks_60 ?_
      refine a_iastc 6 eX8_walks_61 sA101 kA101 (by decide) (by decide) ?_
      refine a_aload_n eX8_walks_62 rfl ?_
      refine a_iload_n eX8_walks_63 rfl ?_
      refine qX8_180 rfl eX8_walks_64 (Nat.le_of_ble_eq_true rfl) ?_
      refine Tr.of rfl (Nat.le_of_ble_eq_true rfl) (vs := [some (.ref (G.1 100)), some (.int v1)]) rfl ?_
      refine a_aload_n eX8_learns_0 rfl ?_
      refine a_iload_n eX8_learns_1 rfl ?_
      refine a_iconst (v := 0) eX8_learns_2 (by decide) ?_
      refine qX8_86 rfl eX8_learns_3 (Nat.le_of_ble_eq_true rfl) ?_
      refine Tr.of rfl (Nat.le_of_ble_eq_true rfl) (vs := [some (.ref (G.1 100)), some (.int v1), some (.int 0)]) rfl ?_
      refine a_aload_n eX8_of_0 rfl ?_
      refine gX8_0 eX8_of_1 fl_X8_7 ?_
      refine a_bipush (v := 10) eX8_of_4 (by decide) ?_
      refine a_iconst (v := 4) eX8_of_6 (by decide) ?_
      refine a_iload_n eX8_of_7 rfl ?_
      refine a_imul eX8_of_8 ?_
      refine a_iadd eX8_of_9 ?_
      refine a_iload_n eX8_of_10 rfl ?_
      refine a_iadd eX8_of_11 ?_
      obtain ⟨h7, hv⟩ := hv
      refine a_iald eX8_of_12 sA101 kA101 h7 ?_
      refine a_iret eX8_of_13 rfl rfl (ret_i ?_)
      refine a_iconst (v := 2) eX8_learns_6 (by decide) ?_
      refine a_icmp_eq (tgt := 24) eX8_learns_7 (by decide) (fun w8 => ?_) (fun w8 => ?_)
      · replace hv := hv.1 w8
        refine a_iconst (v := 0) eX8_learns_24 (by decide) ?_
        refine a_iret eX8_learns_25 rfl rfl (ret_i ?_)
        refine a_if_eq (tgt := 110) eX8_walks_67 (by decide) (fun _ => ?_) (fun h => absurd h (by decide))
        exact a_vret eX8_walks_110 rfl hv
      · replace hv := hv.2 w8
        refine a_aload_n eX8_learns_10 rfl ?_
        refine a_iload_n eX8_learns_11 rfl ?_
        refine a_iconst (v := 0) eX8_learns_12 (by decide) ?_
        refine qX8_86 rfl eX8_learns_13 (Nat.le_of_ble_eq_true rfl) ?_
        refine Tr.of rfl (Nat.le_of_ble_eq_true rfl) (vs := [some (.ref (G.1 100)), some (.int v1), some (.int 0)]) rfl ?_
        refine a_aload_n eX8_of_0 rfl ?_
        refine gX8_0 eX8_of_1 fl_X8_7 ?_
        refine a_bipush (v := 10) eX8_of_4 (by decide) ?_
        refine a_iconst (v := 4) eX8_of_6 (by decide) ?_
        refine a_iload_n eX8_of_7 rfl ?_
        refine a_imul eX8_of_8 ?_
        refine a_iadd eX8_of_9 ?_
        refine a_iload_n eX8_of_10 rfl ?_
        refine a_iadd eX8_of_11 ?_
        obtain ⟨h9, hv⟩ := hv
        refine a_iald eX8_of_12 sA101 kA101 h9 ?_
        refine a_iret eX8_of_13 rfl rfl (ret_i ?_)
        refine a_iconst (v := 4) eX8_learns_16 (by decide) ?_
        refine a_icmp_eq (tgt := 24) eX8_learns_17 (by decide) (fun w10 => ?_) (fun w10 => ?_)
        · replace hv := hv.1 w10
          refine a_iconst (v := 0) eX8_learns_24 (by decide) ?_
          refine a_iret eX8_learns_25 rfl rfl (ret_i ?_)
          refine a_if_eq (tgt := 110) eX8_walks_67 (by decide) (fun _ => ?_) (fun h => absurd h (by decide))
          exact a_vret eX8_walks_110 rfl hv
        · replace hv := hv.2 w10
          refine a_iconst (v := 1) eX8_learns_20 (by decide) ?_
          refine a_goto (tgt := 25) eX8_learns_21 (by decide) ?_
          refine a_iret eX8_learns_25 rfl rfl (ret_i ?_)
          refine a_if_eq (tgt := 110) eX8_walks_67 (by decide) (fun h => absurd h (by decide)) (fun _ => ?_)
          refine a_aload_n eX8_walks_70 rfl ?_
          refine a_iload_n eX8_walks_71 rfl ?_
          refine a_iconst (v := 3) eX8_walks_72 (by decide) ?_
          refine qX8_86 rfl eX8_walks_73 (Nat.le_of_ble_eq_true rfl) ?_
          refine Tr.of rfl (Nat.le_of_ble_eq_true rfl) (vs := [some (.ref (G.1 100)), some (.int v1), some (.int 3)]) rfl ?_
          refine a_aload_n eX8_of_0 rfl ?_
          refine gX8_0 eX8_of_1 fl_X8_7 ?_
          refine a_bipush (v := 10) eX8_of_4 (by decide) ?_
          refine a_iconst (v := 4) eX8_of_6 (by decide) ?_
          refine a_iload_n eX8_of_7 rfl ?_
          refine a_imul eX8_of_8 ?_
          refine a_iadd eX8_of_9 ?_
          refine a_iload_n eX8_of_10 rfl ?_
          refine a_iadd eX8_of_11 ?_
          obtain ⟨h11, hv⟩ := hv
          refine a_iald eX8_of_12 sA101 kA101 h11 ?_
          refine a_iret eX8_of_13 rfl rfl (ret_i ?_)
          refine a_iload_n eX8_walks_76 rfl ?_
          refine qX8_149 rfl eX8_walks_77 (Nat.le_of_ble_eq_true rfl) ?_
          refine Tr.of rfl (Nat.le_of_ble_eq_true rfl) (vs := [some (.int ((um M6 101 6 ((M6 101 6) + 1)) 101 (ix ((10 + (4 * v1)) + 3)))), some (.int v2)]) rfl ?_
          refine a_iload_n eX8_isAmong_0 rfl ?_
          refine a_iload_n eX8_isAmong_1 rfl ?_
          refine a_ishr eX8_isAmong_2 ?_
          refine a_iconst (v := 1) eX8_isAmong_3 (by decide) ?_
          refine a_iand eX8_isAmong_4 ?_
          refine a_iconst (v := 1) eX8_isAmong_5 (by decide) ?_
          refine a_icmp_ne (tgt := 13) eX8_isAmong_6 (by decide) (fun w12 => ?_) (fun w12 => ?_)
          · replace hv := hv.2 w12
            refine a_iconst (v := 0) eX8_isAmong_13 (by decide) ?_
            refine a_iret eX8_isAmong_14 rfl rfl (ret_i ?_)
            refine a_if_ne (tgt := 110) eX8_walks_80 (by decide) (fun h => absurd h (by decide)) (fun _ => ?_)
            refine a_aload_n eX8_walks_83 rfl ?_
            refine a_iload_n eX8_walks_84 rfl ?_
            refine a_iconst (v := 3) eX8_walks_85 (by decide) ?_
            refine a_aload_n eX8_walks_86 rfl ?_
            refine a_iload_n eX8_walks_87 rfl ?_
            refine a_iconst (v := 3) eX8_walks_88 (by decide) ?_
            refine qX8_86 rfl eX8_walks_89 (Nat.le_of_ble_eq_true rfl) ?_
            refine Tr.of rfl (Nat.le_of_ble_eq_true rfl) (vs := [some (.ref (G.1 100)), some (.int v1), some (.int 3)]) rfl ?_
            refine a_aload_n eX8_of_0 rfl ?_
            refine gX8_0 eX8_of_1 fl_X8_7 ?_
            refine a_bipush (v := 10) eX8_of_4 (by decide) ?_
            refine a_iconst (v := 4) eX8_of_6 (by decide) ?_
            refine a_iload_n eX8_of_7 rfl ?_
            refine a_imul eX8_of_8 ?_
            refine a_iadd eX8_of_9 ?_
            refine a_iload_n eX8_of_10 rfl ?_
            refine a_iadd eX8_of_11 ?_
            obtain ⟨h13, hv⟩ := hv
            refine a_iald eX8_of_12 sA101 kA101 h13 ?_
            refine a_iret eX8_of_13 rfl rfl (ret_i ?_)
            refine a_iconst (v := 1) eX8_walks_92 (by decide) ?_
            refine a_iload_n eX8_walks_93 rfl ?_
            refine a_ishl eX8_walks_94 ?_
            refine a_ior eX8_walks_95 ?_
            refine qX8_105 rfl eX8_walks_96 (Nat.le_of_ble_eq_true rfl) ?_
            refine Tr.of rfl (Nat.le_of_ble_eq_true rfl) (vs := [some (.ref (G.1 100)), some (.int v1), some (.int 3), some (.int (((um M6 101 6 ((M6 101 6) + 1)) 101 (ix ((10 + (4 * v1)) + 3))) ||| ((1 : Int32) <<< (v2 &&& 31))))]) rfl ?_
            refine a_aload_n eX8_sets_0 rfl ?_
            refine gX8_0 eX8_sets_1 fl_X8_7 ?_
            refine a_bipush (v := 10) eX8_sets_4 (by decide) ?_
            refine a_iconst (v := 4) eX8_sets_6 (by decide) ?_
            refine a_iload_n eX8_sets_7 rfl ?_
            refine a_imul eX8_sets_8 ?_
            refine a_iadd eX8_sets_9 ?_
            refine a_iload_n eX8_sets_10 rfl ?_
            refine a_iadd eX8_sets_11 ?_
            refine a_iload_n eX8_sets_12 rfl ?_
            obtain ⟨h14, hv⟩ := hv
            refine a_iast eX8_sets_13 sA101 kA101 h14 ?_
            refine a_nm (fun M15 eM15 => ?_)
            replace hv := hv M15 eM15
            refine a_vret eX8_sets_14 rfl (ret_v ?_)
            refine a_aload_n eX8_walks_99 rfl ?_
            refine gX8_0 eX8_walks_100 fl_X8_7 ?_
            refine a_bipush (v := 7) eX8_walks_103 (by decide) ?_
            refine a_dup2 eX8_walks_105 rfl rfl ?_
            refine a_ialdc 7 eX8_walks_106 sA101 kA101 (by decide) (by decide) ?_
            refine a_iconst (v := 1) eX8_walks_107 (by decide) ?_
            refine a_iadd eX8_walks_108 ?_
            refine a_iastc 7 eX8_walks_109 sA101 kA101 (by decide) (by decide) ?_
            exact a_vret eX8_walks_110 rfl hv
          · replace hv := hv.1 w12
            refine a_iconst (v := 1) eX8_isAmong_9 (by decide) ?_
            refine a_goto (tgt := 14) eX8_isAmong_10 (by decide) ?_
            refine a_iret eX8_isAmong_14 rfl rfl (ret_i ?_)
            refine a_if_ne (tgt := 110) eX8_walks_80 (by decide) (fun _ => ?_) (fun h => absurd h (by decide))
            exact a_vret eX8_walks_110 rfl hv
    · replace hv := hv.1 w3
      refine a_aload_n eX8_otherEnd_9 rfl ?_
      refine a_iload_n eX8_otherEnd_10 rfl ?_
      refine qX8_79 rfl eX8_otherEnd_11 (Nat.le_of_ble_eq_true rfl) ?_
      refine Tr.of rfl (Nat.le_of_ble_eq_true rfl) (vs := [some (.ref (G.1 100)), some (.int v2)]) rfl ?_
      refine a_aload_n eX8_to_0 rfl ?_
      refine gX8_0 eX8_to_1 fl_X8_7 ?_
      refine a_bipush (v := 42) eX8_to_4 (by decide) ?_
      refine a_iconst (v := 3) eX8_to_6 (by decide) ?_
      refine a_iload_n eX8_to_7 rfl ?_
      refine a_imul eX8_to_8 ?_
      refine a_iadd eX8_to_9 ?_
      refine a_iconst (v := 1) eX8_to_10 (by decide) ?_
      refine a_iadd eX8_to_11 ?_
      obtain ⟨h16, hv⟩ := hv
      refine a_iald eX8_to_12 sA101 kA101 h16 ?_
      refine a_iret eX8_to_13 rfl rfl (ret_i ?_)
      refine a_goto (tgt := 22) eX8_otherEnd_14 (by decide) ?_
      refine a_iret eX8_otherEnd_22 rfl rfl (ret_i ?_)
      refine qX8_105 rfl eX8_walks_48 (Nat.le_of_ble_eq_true rfl) ?_
      refine Tr.of rfl (Nat.le_of_ble_eq_true rfl) (vs := [some (.ref (G.1 100)), some (.int v1), some (.int 1), some (.int (M 101 (ix ((42 + (3 * v2)) + 1))))]) rfl ?_
      refine a_aload_n eX8_sets_0 rfl ?_
      refine gX8_0 eX8_sets_1 fl_X8_7 ?_
      refine a_bipush (v := 10) eX8_sets_4 (by decide) ?_
      refine a_iconst (v := 4) eX8_sets_6 (by decide) ?_
      refine a_iload_n eX8_sets_7 rfl ?_
      refine a_imul eX8_sets_8 ?_
      refine a_iadd eX8_sets_9 ?_
      refine a_iload_n eX8_sets_10 rfl ?_
      refine a_iadd eX8_sets_11 ?_
      refine a_iload_n eX8_sets_12 rfl ?_
      obtain ⟨h17, hv⟩ := hv
      refine a_iast eX8_sets_13 sA101 kA101 h17 ?_
      refine a_nm (fun M18 eM18 => ?_)
      replace hv := hv M18 eM18
      refine a_vret eX8_sets_14 rfl (ret_v ?_)
      refine a_aload_n eX8_walks_51 rfl ?_
      refine gX8_0 eX8_walks_52 fl_X8_7 ?_
      refine a_bipush (v := 6) eX8_walks_55 (by decide) ?_
      refine a_dup2 eX8_walks_57 rfl rfl ?_
      refine a_ialdc 6 eX8_walks_58 sA101 kA101 (by decide) (by decide) ?_
      refine a_iconst (v := 1) eX8_walks_59 (by decide) ?_
      refine a_iadd eX8_walks_60 ?_
      refine a_iastc 6 eX8_walks_61 sA101 kA101 (by decide) (by decide) ?_
      refine a_aload_n eX8_walks_62 rfl ?_
      refine a_iload_n eX8_walks_63 rfl ?_
      refine qX8_180 rfl eX8_walks_64 (Nat.le_of_ble_eq_true rfl) ?_
      refine Tr.of rfl (Nat.le_of_ble_eq_true rfl) (vs := [some (.ref (G.1 100)), some (.int v1)]) rfl ?_
      refine a_aload_n eX8_learns_0 rfl ?_
      refine a_iload_n eX8_learns_1 rfl ?_
      refine a_iconst (v := 0) eX8_learns_2 (by decide) ?_
      refine qX8_86 rfl eX8_learns_3 (Nat.le_of_ble_eq_true rfl) ?_
      refine Tr.of rfl (Nat.le_of_ble_eq_true rfl) (vs := [some (.ref (G.1 100)), some (.int v1), some (.int 0)]) rfl ?_
      refine a_aload_n eX8_of_0 rfl ?_
      refine gX8_0 eX8_of_1 fl_X8_7 ?_
      refine a_bipush (v := 10) eX8_of_4 (by decide) ?_
      refine a_iconst (v := 4) eX8_of_6 (by decide) ?_
      refine a_iload_n eX8_of_7 rfl ?_
      refine a_imul eX8_of_8 ?_
      refine a_iadd eX8_of_9 ?_
      refine a_iload_n eX8_of_10 rfl ?_
      refine a_iadd eX8_of_11 ?_
      obtain ⟨h19, hv⟩ := hv
      refine a_iald eX8_of_12 sA101 kA101 h19 ?_
      refine a_iret eX8_of_13 rfl rfl (ret_i ?_)
      refine a_iconst (v := 2) eX8_learns_6 (by decide) ?_
      refine a_icmp_eq (tgt := 24) eX8_learns_7 (by decide) (fun w20 => ?_) (fun w20 => ?_)
      · replace hv := hv.1 w20
        refine a_iconst (v := 0) eX8_learns_24 (by decide) ?_
        refine a_iret eX8_learns_25 rfl rfl (ret_i ?_)
        refine a_if_eq (tgt := 110) eX8_walks_67 (by decide) (fun _ => ?_) (fun h => absurd h (by decide))
        exact a_vret eX8_walks_110 rfl hv
      · replace hv := hv.2 w20
        refine a_aload_n eX8_learns_10 rfl ?_
        refine a_iload_n eX8_learns_11 rfl ?_
        refine a_iconst (v := 0) eX8_learns_12 (by decide) ?_
        refine qX8_86 rfl eX8_learns_13 (Nat.le_of_ble_eq_true rfl) ?_
        refine Tr.of rfl (Nat.le_of_ble_eq_true rfl) (vs := [some (.ref (G.1 100)), some (.int v1), some (.int 0)]) rfl ?_
        refine a_aload_n eX8_of_0 rfl ?_
        refine gX8_0 eX8_of_1 fl_X8_7 ?_
        refine a_bipush (v := 10) eX8_of_4 (by decide) ?_
        refine a_iconst (v := 4) eX8_of_6 (by decide) ?_
        refine a_iload_n eX8_of_7 rfl ?_
        refine a_imul eX8_of_8 ?_
        refine a_iadd eX8_of_9 ?_
        refine a_iload_n eX8_of_10 rfl ?_
        refine a_iadd eX8_of_11 ?_
        obtain ⟨h21, hv⟩ := hv
        refine a_iald eX8_of_12 sA101 kA101 h21 ?_
        refine a_iret eX8_of_13 rfl rfl (ret_i ?_)
        refine a_iconst (v := 4) eX8_learns_16 (by decide) ?_
        refine a_icmp_eq (tgt := 24) eX8_learns_17 (by decide) (fun w22 => ?_) (fun w22 => ?_)
        · replace hv := hv.1 w22
          refine a_iconst (v := 0) eX8_learns_24 (by decide) ?_
          refine a_iret eX8_learns_25 rfl rfl (ret_i ?_)
          refine a_if_eq (tgt := 110) eX8_walks_67 (by decide) (fun _ => ?_) (fun h => absurd h (by decide))
          exact a_vret eX8_walks_110 rfl hv
        · replace hv := hv.2 w22
          refine a_iconst (v := 1) eX8_learns_20 (by decide) ?_
          refine a_goto (tgt := 25) eX8_learns_21 (by decide) ?_
          refine a_iret eX8_learns_25 rfl rfl (ret_i ?_)
          refine a_if_eq (tgt := 110) eX8_walks_67 (by decide) (fun h => absurd h (by decide)) (fun _ => ?_)
          refine a_aload_n eX8_walks_70 rfl ?_
          refine a_iload_n eX8_walks_71 rfl ?_
          refine a_iconst (v := 3) eX8_walks_72 (by decide) ?_
          refine qX8_86 rfl eX8_walks_73 (Nat.le_of_ble_eq_true rfl) ?_
          refine Tr.of rfl (Nat.le_of_ble_eq_true rfl) (vs := [some (.ref (G.1 100)), some (.int v1), some (.int 3)]) rfl ?_
          refine a_aload_n eX8_of_0 rfl ?_
          refine gX8_0 eX8_of_1 fl_X8_7 ?_
          refine a_bipush (v := 10) eX8_of_4 (by decide) ?_
          refine a_iconst (v := 4) eX8_of_6 (by decide) ?_
          refine a_iload_n eX8_of_7 rfl ?_
          refine a_imul eX8_of_8 ?_
          refine a_iadd eX8_of_9 ?_
          refine a_iload_n eX8_of_10 rfl ?_
          refine a_iadd eX8_of_11 ?_
          obtain ⟨h23, hv⟩ := hv
          refine a_iald eX8_of_12 sA101 kA101 h23 ?_
          refine a_iret eX8_of_13 rfl rfl (ret_i ?_)
          refine a_iload_n eX8_walks_76 rfl ?_
          refine qX8_149 rfl eX8_walks_77 (Nat.le_of_ble_eq_true rfl) ?_
          refine Tr.of rfl (Nat.le_of_ble_eq_true rfl) (vs := [some (.int ((um M18 101 6 ((M18 101 6) + 1)) 101 (ix ((10 + (4 * v1)) + 3)))), some (.int v2)]) rfl ?_
          refine a_iload_n eX8_isAmong_0 rfl ?_
          refine a_iload_n eX8_isAmong_1 rfl ?_
          refine a_ishr eX8_isAmong_2 ?_
          refine a_iconst (v := 1) eX8_isAmong_3 (by decide) ?_
          refine a_iand eX8_isAmong_4 ?_
          refine a_iconst (v := 1) eX8_isAmong_5 (by decide) ?_
          refine a_icmp_ne (tgt := 13) eX8_isAmong_6 (by decide) (fun w24 => ?_) (fun w24 => ?_)
          · replace hv := hv.2 w24
            refine a_iconst (v := 0) eX8_isAmong_13 (by decide) ?_
            refine a_iret eX8_isAmong_14 rfl rfl (ret_i ?_)
            refine a_if_ne (tgt := 110) eX8_walks_80 (by decide) (fun h => absurd h (by decide)) (fun _ => ?_)
            refine a_aload_n eX8_walks_83 rfl ?_
            refine a_iload_n eX8_walks_84 rfl ?_
            refine a_iconst (v := 3) eX8_walks_85 (by decide) ?_
            refine a_aload_n eX8_walks_86 rfl ?_
            refine a_iload_n eX8_walks_87 rfl ?_
            refine a_iconst (v := 3) eX8_walks_88 (by decide) ?_
            refine qX8_86 rfl eX8_walks_89 (Nat.le_of_ble_eq_true rfl) ?_
            refine Tr.of rfl (Nat.le_of_ble_eq_true rfl) (vs := [some (.ref (G.1 100)), some (.int v1), some (.int 3)]) rfl ?_
            refine a_aload_n eX8_of_0 rfl ?_
            refine gX8_0 eX8_of_1 fl_X8_7 ?_
            refine a_bipush (v := 10) eX8_of_4 (by decide) ?_
            refine a_iconst (v := 4) eX8_of_6 (by decide) ?_
            refine a_iload_n eX8_of_7 rfl ?_
            refine a_imul eX8_of_8 ?_
            refine a_iadd eX8_of_9 ?_
            refine a_iload_n eX8_of_10 rfl ?_
            refine a_iadd eX8_of_11 ?_
            obtain ⟨h25, hv⟩ := hv
            refine a_iald eX8_of_12 sA101 kA101 h25 ?_
            refine a_iret eX8_of_13 rfl rfl (ret_i ?_)
            refine a_iconst (v := 1) eX8_walks_92 (by decide) ?_
            refine a_iload_n eX8_walks_93 rfl ?_
            refine a_ishl eX8_walks_94 ?_
            refine a_ior eX8_walks_95 ?_
            refine qX8_105 rfl eX8_walks_96 (Nat.le_of_ble_eq_true rfl) ?_
            refine Tr.of rfl (Nat.le_of_ble_eq_true rfl) (vs := [some (.ref (G.1 100)), some (.int v1), some (.int 3), some (.int (((um M18 101 6 ((M18 101 6) + 1)) 101 (ix ((10 + (4 * v1)) + 3))) ||| ((1 : Int32) <<< (v2 &&& 31))))]) rfl ?_
            refine a_aload_n eX8_sets_0 rfl ?_
            refine gX8_0 eX8_sets_1 fl_X8_7 ?_
            refine a_bipush (v := 10) eX8_sets_4 (by decide) ?_
            refine a_iconst (v := 4) eX8_sets_6 (by decide) ?_
            refine a_iload_n eX8_sets_7 rfl ?_
            refine a_imul eX8_sets_8 ?_
            refine a_iadd eX8_sets_9 ?_
            refine a_iload_n eX8_sets_10 rfl ?_
            refine a_iadd eX8_sets_11 ?_
            refine a_iload_n eX8_sets_12 rfl ?_
            obtain ⟨h26, hv⟩ := hv
            refine a_iast eX8_sets_13 sA101 kA101 h26 ?_
            refine a_nm (fun M27 eM27 => ?_)
            replace hv := hv M27 eM27
            refine a_vret eX8_sets_14 rfl (ret_v ?_)
            refine a_aload_n eX8_walks_99 rfl ?_
            refine gX8_0 eX8_walks_100 fl_X8_7 ?_
            refine a_bipush (v := 7) eX8_walks_103 (by decide) ?_
            refine a_dup2 eX8_walks_105 rfl rfl ?_
            refine a_ialdc 7 eX8_walks_106 sA101 kA101 (by decide) (by decide) ?_
            refine a_iconst (v := 1) eX8_walks_107 (by decide) ?_
            refine a_iadd eX8_walks_108 ?_
            refine a_iastc 7 eX8_walks_109 sA101 kA101 (by decide) (by decide) ?_
            exact a_vret eX8_walks_110 rfl hv
          · replace hv := hv.1 w24
            refine a_iconst (v := 1) eX8_isAmong_9 (by decide) ?_
            refine a_goto (tgt := 14) eX8_isAmong_10 (by decide) ?_
            refine a_iret eX8_isAmong_14 rfl rfl (ret_i ?_)
            refine a_if_ne (tgt := 110) eX8_walks_80 (by decide) (fun _ => ?_) (fun h => absurd h (by decide))
            exact a_vret eX8_walks_110 rfl hv
  · replace hv := hv.1 w1
    exact a_vret eX8_walks_38 rfl hv
theorem tX8_ages {l : Launch} {G : GT} {d : Nat} {M : Mem} {R : Option Value → Mem → Prop} {v1 : Int32} (hv : vp_in ((10 + (4 * v1)) + 2) 3084 ∧ (0 ≤ ((M 101 (ix ((10 + (4 * v1)) + 2))) + 1) → (((M 101 (ix ((10 + (4 * v1)) + 2))) + 1) ≤ 99 → vp_in ((10 + (4 * v1)) + 2) 3084 ∧ ∀ M5 : Mem, M5 = um M 101 (ix ((10 + (4 * v1)) + 2)) ((M 101 (ix ((10 + (4 * v1)) + 2))) + 1) → vp_in ((10 + (4 * v1)) + 2) 3084 ∧ (((M5 101 (ix ((10 + (4 * v1)) + 2))) - (M5 101 (ix ((10 + (4 * v1)) + 2))) / 10 * 10) = 0 → vp_in ((10 + (4 * v1)) + 0) 3084 ∧ ((M5 101 (ix ((10 + (4 * v1)) + 0))) = 1 → At l G (d + 4) mX8_ages 40 [some (.ref (G.1 100)), some (.int v1), none, none] [.int 0] M5 R) ∧ (¬ ((M5 101 (ix ((10 + (4 * v1)) + 0))) = 1) → vp_in ((10 + (4 * v1)) + 0) 3084 ∧ ((M5 101 (ix ((10 + (4 * v1)) + 0))) = 3 → At l G (d + 4) mX8_ages 40 [some (.ref (G.1 100)), some (.int v1), none, none] [.int 2] M5 R) ∧ (¬ ((M5 101 (ix ((10 + (4 * v1)) + 0))) = 3) → At l G (d + 4) mX8_ages 40 [some (.ref (G.1 100)), some (.int v1), none, none] [.int 1] M5 R))) ∧ (¬ (((M5 101 (ix ((10 + (4 * v1)) + 2))) - (M5 101 (ix ((10 + (4 * v1)) + 2))) / 10 * 10) = 0) → At l G (d + 4) mX8_ages 40 [some (.ref (G.1 100)), some (.int v1), none, none] [.int 0] M5 R)) ∧ (¬ (((M 101 (ix ((10 + (4 * v1)) + 2))) + 1) ≤ 99) → vp_in ((10 + (4 * v1)) + 2) 3084 ∧ vp_in ((10 + (4 * v1)) + 2) 3084 ∧ ((((um M 101 (ix ((10 + (4 * v1)) + 2)) 99) 101 (ix ((10 + (4 * v1)) + 2))) - ((um M 101 (ix ((10 + (4 * v1)) + 2)) 99) 101 (ix ((10 + (4 * v1)) + 2))) / 10 * 10) = 0 → vp_in ((10 + (4 * v1)) + 0) 3084 ∧ (((um M 101 (ix ((10 + (4 * v1)) + 2)) 99) 101 (ix ((10 + (4 * v1)) + 0))) = 1 → At l G (d + 4) mX8_ages 40 [some (.ref (G.1 100)), some (.int v1), none, none] [.int 0] (um M 101 (ix ((10 + (4 * v1)) + 2)) 99) R) ∧ (¬ (((um M 101 (ix ((10 + (4 * v1)) + 2)) 99) 101 (ix ((10 + (4 * v1)) + 0))) = 1) → vp_in ((10 + (4 * v1)) + 0) 3084 ∧ (((um M 101 (ix ((10 + (4 * v1)) + 2)) 99) 101 (ix ((10 + (4 * v1)) + 0))) = 3 → At l G (d + 4) mX8_ages 40 [some (.ref (G.1 100)), some (.int v1), none, none] [.int 2] (um M 101 (ix ((10 + (4 * v1)) + 2)) 99) R) ∧ (¬ (((um M 101 (ix ((10 + (4 * v1)) + 2)) 99) 101 (ix ((10 + (4 * v1)) + 0))) = 3) → At l G (d + 4) mX8_ages 40 [some (.ref (G.1 100)), some (.int v1), none, none] [.int 1] (um M 101 (ix ((10 + (4 * v1)) + 2)) 99) R))) ∧ (¬ ((((um M 101 (ix ((10 + (4 * v1)) + 2)) 99) 101 (ix ((10 + (4 * v1)) + 2))) - ((um M 101 (ix ((10 + (4 * v1)) + 2)) 99) 101 (ix ((10 + (4 * v1)) + 2))) / 10 * 10) = 0) → At l G (d + 4) mX8_ages 40 [some (.ref (G.1 100)), some (.int v1), none, none] [.int 0] (um M 101 (ix ((10 + (4 * v1)) + 2)) 99) R))) ∧ (¬ (0 ≤ ((M 101 (ix ((10 + (4 * v1)) + 2))) + 1)) → vp_in ((10 + (4 * v1)) + 2) 3084 ∧ vp_in ((10 + (4 * v1)) + 2) 3084 ∧ ((((um M 101 (ix ((10 + (4 * v1)) + 2)) 0) 101 (ix ((10 + (4 * v1)) + 2))) - ((um M 101 (ix ((10 + (4 * v1)) + 2)) 0) 101 (ix ((10 + (4 * v1)) + 2))) / 10 * 10) = 0 → vp_in ((10 + (4 * v1)) + 0) 3084 ∧ (((um M 101 (ix ((10 + (4 * v1)) + 2)) 0) 101 (ix ((10 + (4 * v1)) + 0))) = 1 → At l G (d + 4) mX8_ages 40 [some (.ref (G.1 100)), some (.int v1), none, none] [.int 0] (um M 101 (ix ((10 + (4 * v1)) + 2)) 0) R) ∧ (¬ (((um M 101 (ix ((10 + (4 * v1)) + 2)) 0) 101 (ix ((10 + (4 * v1)) + 0))) = 1) → vp_in ((10 + (4 * v1)) + 0) 3084 ∧ (((um M 101 (ix ((10 + (4 * v1)) + 2)) 0) 101 (ix ((10 + (4 * v1)) + 0))) = 3 → At l G (d + 4) mX8_ages 40 [some (.ref (G.1 100)), some (.int v1), none, none] [.int 2] (um M 101 (ix ((10 + (4 * v1)) + 2)) 0) R) ∧ (¬ (((um M 101 (ix ((10 + (4 * v1)) + 2)) 0) 101 (ix ((10 + (4 * v1)) + 0))) = 3) → At l G (d + 4) mX8_ages 40 [some (.ref (G.1 100)), some (.int v1), none, none] [.int 1] (um M 101 (ix ((10 + (4 * v1)) + 2)) 0) R))) ∧ (¬ ((((um M 101 (ix ((10 + (4 * v1)) + 2)) 0) 101 (ix ((10 + (4 * v1)) + 2))) - ((um M 101 (ix ((10 + (4 * v1)) + 2)) 0) 101 (ix ((10 + (4 * v1)) + 2))) / 10 * 10) = 0) → At l G (d + 4) mX8_ages 40 [some (.ref (G.1 100)), some (.int v1), none, none] [.int 0] (um M 101 (ix ((10 + (4 * v1)) + 2)) 0) R))) : Tr l G (d + 4) mX8_ages [.ref (G.1 100), .int v1] M R := by
  refine Tr.of rfl (Nat.le_of_ble_eq_true rfl) (vs := [some (.ref (G.1 100)), some (.int v1), none, none]) rfl ?_
  refine a_aload_n eX8_ages_0 rfl ?_
  refine a_iload_n eX8_ages_1 rfl ?_
  refine a_iconst (v := 2) eX8_ages_2 (by decide) ?_
  refine a_aload_n eX8_ages_3 rfl ?_
  refine a_iload_n eX8_ages_4 rfl ?_
  refine a_iconst (v := 2) eX8_ages_5 (by decide) ?_
  refine qX8_86 rfl eX8_ages_6 (Nat.le_of_ble_eq_true rfl) ?_
  refine Tr.of rfl (Nat.le_of_ble_eq_true rfl) (vs := [some (.ref (G.1 100)), some (.int v1), some (.int 2)]) rfl ?_
  refine a_aload_n eX8_of_0 rfl ?_
  refine gX8_0 eX8_of_1 fl_X8_7 ?_
  refine a_bipush (v := 10) eX8_of_4 (by decide) ?_
  refine a_iconst (v := 4) eX8_of_6 (by decide) ?_
  refine a_iload_n eX8_of_7 rfl ?_
  refine a_imul eX8_of_8 ?_
  refine a_iadd eX8_of_9 ?_
  refine a_iload_n eX8_of_10 rfl ?_
  refine a_iadd eX8_of_11 ?_
  obtain ⟨h1, hv⟩ := hv
  refine a_iald eX8_of_12 sA101 kA101 h1 ?_
  refine a_iret eX8_of_13 rfl rfl (ret_i ?_)
  refine a_iconst (v := 1) eX8_ages_9 (by decide) ?_
  refine a_iadd eX8_ages_10 ?_
  refine a_bipush (v := 99) eX8_ages_11 (by decide) ?_
  refine qX8_99 rfl eX8_ages_13 (Nat.le_of_ble_eq_true rfl) ?_
  refine Tr.of rfl (Nat.le_of_ble_eq_true rfl) (vs := [some (.int ((M 101 (ix ((10 + (4 * v1)) + 2))) + 1)), some (.int 99)]) rfl ?_
  refine a_iload_n eX8_within_0 rfl ?_
  refine a_if_ge (tgt := 8) eX8_within_1 (by decide) (fun w2 => ?_) (fun w2 => ?_)
  · replace hv := hv.1 w2
    refine a_iload_n eX8_within_8 rfl ?_
    refine a_iload_n eX8_within_9 rfl ?_
    refine a_icmp_le (tgt := 17) eX8_within_10 (by decide) (fun w3 => ?_) (fun w3 => ?_)
    · replace hv := hv.1 w3
      refine a_iload_n eX8_within_17 rfl ?_
      refine a_iret eX8_within_18 rfl rfl (ret_i ?_)
      refine qX8_105 rfl eX8_ages_16 (Nat.le_of_ble_eq_true rfl) ?_
      refine Tr.of rfl (Nat.le_of_ble_eq_true rfl) (vs := [some (.ref (G.1 100)), some (.int v1), some (.int 2), some (.int ((M 101 (ix ((10 + (4 * v1)) + 2))) + 1))]) rfl ?_
      refine a_aload_n eX8_sets_0 rfl ?_
      refine gX8_0 eX8_sets_1 fl_X8_7 ?_
      refine a_bipush (v := 10) eX8_sets_4 (by decide) ?_
      refine a_iconst (v := 4) eX8_sets_6 (by decide) ?_
      refine a_iload_n eX8_sets_7 rfl ?_
      refine a_imul eX8_sets_8 ?_
      refine a_iadd eX8_sets_9 ?_
      refine a_iload_n eX8_sets_10 rfl ?_
      refine a_iadd eX8_sets_11 ?_
      refine a_iload_n eX8_sets_12 rfl ?_
      obtain ⟨h4, hv⟩ := hv
      refine a_iast eX8_sets_13 sA101 kA101 h4 ?_
      refine a_nm (fun M5 eM5 => ?_)
      replace hv := hv M5 eM5
      refine a_vret eX8_sets_14 rfl (ret_v ?_)
      refine a_aload_n eX8_ages_19 rfl ?_
      refine a_iload_n eX8_ages_20 rfl ?_
      refine a_iconst (v := 2) eX8_ages_21 (by decide) ?_
      refine qX8_86 rfl eX8_ages_22 (Nat.le_of_ble_eq_true rfl) ?_
      refine Tr.of rfl (Nat.le_of_ble_eq_true rfl) (vs := [some (.ref (G.1 100)), some (.int v1), some (.int 2)]) rfl ?_
      refine a_aload_n eX8_of_0 rfl ?_
      refine gX8_0 eX8_of_1 fl_X8_7 ?_
      refine a_bipush (v := 10) eX8_of_4 (by decide) ?_
      refine a_iconst (v := 4) eX8_of_6 (by decide) ?_
      refine a_iload_n eX8_of_7 rfl ?_
      refine a_imul eX8_of_8 ?_
      refine a_iadd eX8_of_9 ?_
      refine a_iload_n eX8_of_10 rfl ?_
      refine a_iadd eX8_of_11 ?_
      obtain ⟨h6, hv⟩ := hv
      refine a_iald eX8_of_12 sA101 kA101 h6 ?_
      refine a_iret eX8_of_13 rfl rfl (ret_i ?_)
      refine a_bipush (v := 10) eX8_ages_25 (by decide) ?_
      refine a_irem eX8_ages_27 (by decide) ?_
      refine a_if_ne (tgt := 39) eX8_ages_28 (by decide) (fun w7 => ?_) (fun w7 => ?_)
      · replace hv := hv.2 w7
        refine a_iconst (v := 0) eX8_ages_39 (by decide) ?_
        exact a_weak [true, true, false, false] rfl rfl hv
      · replace hv := hv.1 w7
        refine a_aload_n eX8_ages_31 rfl ?_
        refine a_iload_n eX8_ages_32 rfl ?_
        refine qX8_183 rfl eX8_ages_33 (Nat.le_of_ble_eq_true rfl) ?_
        refine Tr.of rfl (Nat.le_of_ble_eq_true rfl) (vs := [some (.ref (G.1 100)), some (.int v1)]) rfl ?_
        refine a_aload_n eX8_loses_0 rfl ?_
        refine a_iload_n eX8_loses_1 rfl ?_
        refine a_iconst (v := 0) eX8_loses_2 (by decide) ?_
        refine qX8_86 rfl eX8_loses_3 (Nat.le_of_ble_eq_true rfl) ?_
        refine Tr.of rfl (Nat.le_of_ble_eq_true rfl) (vs := [some (.ref (G.1 100)), some (.int v1), some (.int 0)]) rfl ?_
        refine a_aload_n eX8_of_0 rfl ?_
        refine gX8_0 eX8_of_1 fl_X8_7 ?_
        refine a_bipush (v := 10) eX8_of_4 (by decide) ?_
        refine a_iconst (v := 4) eX8_of_6 (by decide) ?_
        refine a_iload_n eX8_of_7 rfl ?_
        refine a_imul eX8_of_8 ?_
        refine a_iadd eX8_of_9 ?_
        refine a_iload_n eX8_of_10 rfl ?_
        refine a_iadd eX8_of_11 ?_
        obtain ⟨h8, hv⟩ := hv
        refine a_iald eX8_of_12 sA101 kA101 h8 ?_
        refine a_iret eX8_of_13 rfl rfl (ret_i ?_)
        refine a_iconst (v := 1) eX8_loses_6 (by decide) ?_
        refine a_icmp_ne (tgt := 14) eX8_loses_7 (by decide) (fun w9 => ?_) (fun w9 => ?_)
        · replace hv := hv.2 w9
          refine a_aload_n eX8_loses_14 rfl ?_
          refine a_iload_n eX8_loses_15 rfl ?_
          refine a_iconst (v := 0) eX8_loses_16 (by decide) ?_
          refine qX8_86 rfl eX8_loses_17 (Nat.le_of_ble_eq_true rfl) ?_
          refine Tr.of rfl (Nat.le_of_ble_eq_true rfl) (vs := [some (.ref (G.1 100)), some (.int v1), some (.int 0)]) rfl ?_
          refine a_aload_n eX8_of_0 rfl ?_
          refine gX8_0 eX8_of_1 fl_X8_7 ?_
          refine a_bipush (v := 10) eX8_of_4 (by decide) ?_
          refine a_iconst (v := 4) eX8_of_6 (by decide) ?_
          refine a_iload_n eX8_of_7 rfl ?_
          refine a_imul eX8_of_8 ?_
          refine a_iadd eX8_of_9 ?_
          refine a_iload_n eX8_of_10 rfl ?_
          refine a_iadd eX8_of_11 ?_
          obtain ⟨h10, hv⟩ := hv
          refine a_iald eX8_of_12 sA101 kA101 h10 ?_
          refine a_iret eX8_of_13 rfl rfl (ret_i ?_)
          refine a_iconst (v := 3) eX8_loses_20 (by decide) ?_
          refine a_icmp_ne (tgt := 28) eX8_loses_21 (by decide) (fun w11 => ?_) (fun w11 => ?_)
          · replace hv := hv.2 w11
            refine a_iconst (v := 1) eX8_loses_28 (by decide) ?_
            refine a_iret eX8_loses_29 rfl rfl (ret_i ?_)
            refine a_goto (tgt := 40) eX8_ages_36 (by decide) ?_
            exact a_weak [true, true, false, false] rfl rfl hv
          · replace hv := hv.1 w11
            refine a_iconst (v := 2) eX8_loses_24 (by decide) ?_
            refine a_goto (tgt := 29) eX8_loses_25 (by decide) ?_
            refine a_iret eX8_loses_29 rfl rfl (ret_i ?_)
            refine a_goto (tgt := 40) eX8_ages_36 (by decide) ?_
            exact a_weak [true, true, false, false] rfl rfl hv
        · replace hv := hv.1 w9
          refine a_iconst (v := 0) eX8_loses_10 (by decide) ?_
          refine a_goto (tgt := 29) eX8_loses_11 (by decide) ?_
          refine a_iret eX8_loses_29 rfl rfl (ret_i ?_)
          refine a_goto (tgt := 40) eX8_ages_36 (by decide) ?_
          exact a_weak [true, true, false, false] rfl rfl hv
    · replace hv := hv.2 w3
      refine a_iload_n eX8_within_13 rfl ?_
      refine a_goto (tgt := 18) eX8_within_14 (by decide) ?_
      refine a_iret eX8_within_18 rfl rfl (ret_i ?_)
      refine qX8_105 rfl eX8_ages_16 (Nat.le_of_ble_eq_true rfl) ?_
      refine Tr.of rfl (Nat.le_of_ble_eq_true rfl) (vs := [some (.ref (G.1 100)), some (.int v1), some (.int 2), some (.int 99)]) rfl ?_
      refine a_aload_n eX8_sets_0 rfl ?_
      refine gX8_0 eX8_sets_1 fl_X8_7 ?_
      refine a_bipush (v := 10) eX8_sets_4 (by decide) ?_
      refine a_iconst (v := 4) eX8_sets_6 (by decide) ?_
      refine a_iload_n eX8_sets_7 rfl ?_
      refine a_imul eX8_sets_8 ?_
      refine a_iadd eX8_sets_9 ?_
      refine a_iload_n eX8_sets_10 rfl ?_
      refine a_iadd eX8_sets_11 ?_
      refine a_iload_n eX8_sets_12 rfl ?_
      obtain ⟨h12, hv⟩ := hv
      refine a_iast eX8_sets_13 sA101 kA101 h12 ?_
      refine a_vret eX8_sets_14 rfl (ret_v ?_)
      refine a_aload_n eX8_ages_19 rfl ?_
      refine a_iload_n eX8_ages_20 rfl ?_
      refine a_iconst (v := 2) eX8_ages_21 (by decide) ?_
      refine qX8_86 rfl eX8_ages_22 (Nat.le_of_ble_eq_true rfl) ?_
      refine Tr.of rfl (Nat.le_of_ble_eq_true rfl) (vs := [some (.ref (G.1 100)), some (.int v1), some (.int 2)]) rfl ?_
      refine a_aload_n eX8_of_0 rfl ?_
      refine gX8_0 eX8_of_1 fl_X8_7 ?_
      refine a_bipush (v := 10) eX8_of_4 (by decide) ?_
      refine a_iconst (v := 4) eX8_of_6 (by decide) ?_
      refine a_iload_n eX8_of_7 rfl ?_
      refine a_imul eX8_of_8 ?_
      refine a_iadd eX8_of_9 ?_
      refine a_iload_n eX8_of_10 rfl ?_
      refine a_iadd eX8_of_11 ?_
      obtain ⟨h13, hv⟩ := hv
      refine a_iald eX8_of_12 sA101 kA101 h13 ?_
      refine a_iret eX8_of_13 rfl rfl (ret_i ?_)
      refine a_bipush (v := 10) eX8_ages_25 (by decide) ?_
      refine a_irem eX8_ages_27 (by decide) ?_
      refine a_if_ne (tgt := 39) eX8_ages_28 (by decide) (fun w14 => ?_) (fun w14 => ?_)
      · replace hv := hv.2 w14
        refine a_iconst (v := 0) eX8_ages_39 (by decide) ?_
        exact a_weak [true, true, false, false] rfl rfl hv
      · replace hv := hv.1 w14
        refine a_aload_n eX8_ages_31 rfl ?_
        refine a_iload_n eX8_ages_32 rfl ?_
        refine qX8_183 rfl eX8_ages_33 (Nat.le_of_ble_eq_true rfl) ?_
        refine Tr.of rfl (Nat.le_of_ble_eq_true rfl) (vs := [some (.ref (G.1 100)), some (.int v1)]) rfl ?_
        refine a_aload_n eX8_loses_0 rfl ?_
        refine a_iload_n eX8_loses_1 rfl ?_
        refine a_iconst (v := 0) eX8_loses_2 (by decide) ?_
        refine qX8_86 rfl eX8_loses_3 (Nat.le_of_ble_eq_true rfl) ?_
        refine Tr.of rfl (Nat.le_of_ble_eq_true rfl) (vs := [some (.ref (G.1 100)), some (.int v1), some (.int 0)]) rfl ?_
        refine a_aload_n eX8_of_0 rfl ?_
        refine gX8_0 eX8_of_1 fl_X8_7 ?_
        refine a_bipush (v := 10) eX8_of_4 (by decide) ?_
        refine a_iconst (v := 4) eX8_of_6 (by decide) ?_
        refine a_iload_n eX8_of_7 rfl ?_
        refine a_imul eX8_of_8 ?_
        refine a_iadd eX8_of_9 ?_
        refine a_iload_n eX8_of_10 rfl ?_
        refine a_iadd eX8_of_11 ?_
        obtain ⟨h15, hv⟩ := hv
        refine a_iald eX8_of_12 sA101 kA101 h15 ?_
        refine a_iret eX8_of_13 rfl rfl (ret_i ?_)
        refine a_iconst (v := 1) eX8_loses_6 (by decide) ?_
        refine a_icmp_ne (tgt := 14) eX8_loses_7 (by decide) (fun w16 => ?_) (fun w16 => ?_)
        · replace hv := hv.2 w16
          refine a_aload_n eX8_loses_14 rfl ?_
          refine a_iload_n eX8_loses_15 rfl ?_
          refine a_iconst (v := 0) eX8_loses_16 (by decide) ?_
          refine qX8_86 rfl eX8_loses_17 (Nat.le_of_ble_eq_true rfl) ?_
          refine Tr.of rfl (Nat.le_of_ble_eq_true rfl) (vs := [some (.ref (G.1 100)), some (.int v1), some (.int 0)]) rfl ?_
          refine a_aload_n eX8_of_0 rfl ?_
          refine gX8_0 eX8_of_1 fl_X8_7 ?_
          refine a_bipush (v := 10) eX8_of_4 (by decide) ?_
          refine a_iconst (v := 4) eX8_of_6 (by decide) ?_
          refine a_iload_n eX8_of_7 rfl ?_
          refine a_imul eX8_of_8 ?_
          refine a_iadd eX8_of_9 ?_
          refine a_iload_n eX8_of_10 rfl ?_
          refine a_iadd eX8_of_11 ?_
          obtain ⟨h17, hv⟩ := hv
          refine a_iald eX8_of_12 sA101 kA101 h17 ?_
          refine a_iret eX8_of_13 rfl rfl (ret_i ?_)
          refine a_iconst (v := 3) eX8_loses_20 (by decide) ?_
          refine a_icmp_ne (tgt := 28) eX8_loses_21 (by decide) (fun w18 => ?_) (fun w18 => ?_)
          · replace hv := hv.2 w18
            refine a_iconst (v := 1) eX8_loses_28 (by decide) ?_
            refine a_iret eX8_loses_29 rfl rfl (ret_i ?_)
            refine a_goto (tgt := 40) eX8_ages_36 (by decide) ?_
            exact a_weak [true, true, false, false] rfl rfl hv
          · replace hv := hv.1 w18
            refine a_iconst (v := 2) eX8_loses_24 (by decide) ?_
            refine a_goto (tgt := 29) eX8_loses_25 (by decide) ?_
            refine a_iret eX8_loses_29 rfl rfl (ret_i ?_)
            refine a_goto (tgt := 40) eX8_ages_36 (by decide) ?_
            exact a_weak [true, true, false, false] rfl rfl hv
        · replace hv := hv.1 w16
          refine a_iconst (v := 0) eX8_loses_10 (by decide) ?_
          refine a_goto (tgt := 29) eX8_loses_11 (by decide) ?_
          refine a_iret eX8_loses_29 rfl rfl (ret_i ?_)
          refine a_goto (tgt := 40) eX8_ages_36 (by decide) ?_
          exact a_weak [true, true, false, false] rfl rfl hv
  · replace hv := hv.2 w2
    refine a_iconst (v := 0) eX8_within_4 (by decide) ?_
    refine a_goto (tgt := 18) eX8_within_5 (by decide) ?_
    refine a_iret eX8_within_18 rfl rfl (ret_i ?_)
    refine qX8_105 rfl eX8_ages_16 (Nat.le_of_ble_eq_true rfl) ?_
    refine Tr.of rfl (Nat.le_of_ble_eq_true rfl) (vs := [some (.ref (G.1 100)), some (.int v1), some (.int 2), some (.int 0)]) rfl ?_
    refine a_aload_n eX8_sets_0 rfl ?_
    refine gX8_0 eX8_sets_1 fl_X8_7 ?_
    refine a_bipush (v := 10) eX8_sets_4 (by decide) ?_
    refine a_iconst (v := 4) eX8_sets_6 (by decide) ?_
    refine a_iload_n eX8_sets_7 rfl ?_
    refine a_imul eX8_sets_8 ?_
    refine a_iadd eX8_sets_9 ?_
    refine a_iload_n eX8_sets_10 rfl ?_
    refine a_iadd eX8_sets_11 ?_
    refine a_iload_n eX8_sets_12 rfl ?_
    obtain ⟨h19, hv⟩ := hv
    refine a_iast eX8_sets_13 sA101 kA101 h19 ?_
    refine a_vret eX8_sets_14 rfl (ret_v ?_)
    refine a_aload_n eX8_ages_19 rfl ?_
    refine a_iload_n eX8_ages_20 rfl ?_
    refine a_iconst (v := 2) eX8_ages_21 (by decide) ?_
    refine qX8_86 rfl eX8_ages_22 (Nat.le_of_ble_eq_true rfl) ?_
    refine Tr.of rfl (Nat.le_of_ble_eq_true rfl) (vs := [some (.ref (G.1 100)), some (.int v1), some (.int 2)]) rfl ?_
    refine a_aload_n eX8_of_0 rfl ?_
    refine gX8_0 eX8_of_1 fl_X8_7 ?_
    refine a_bipush (v := 10) eX8_of_4 (by decide) ?_
    refine a_iconst (v := 4) eX8_of_6 (by decide) ?_
    refine a_iload_n eX8_of_7 rfl ?_
    refine a_imul eX8_of_8 ?_
    refine a_iadd eX8_of_9 ?_
    refine a_iload_n eX8_of_10 rfl ?_
    refine a_iadd eX8_of_11 ?_
    obtain ⟨h20, hv⟩ := hv
    refine a_iald eX8_of_12 sA101 kA101 h20 ?_
    refine a_iret eX8_of_13 rfl rfl (ret_i ?_)
    refine a_bipush (v := 10) eX8_ages_25 (by decide) ?_
    refine a_irem eX8_ages_27 (by decide) ?_
    refine a_if_ne (tgt := 39) eX8_ages_28 (by decide) (fun w21 => ?_) (fun w21 => ?_)
    · replace hv := hv.2 w21
      refine a_iconst (v := 0) eX8_ages_39 (by decide) ?_
      exact a_weak [true, true, false, false] rfl rfl hv
    · replace hv := hv.1 w21
      refine a_aload_n eX8_ages_31 rfl ?_
      refine a_iload_n eX8_ages_32 rfl ?_
      refine qX8_183 rfl eX8_ages_33 (Nat.le_of_ble_eq_true rfl) ?_
      refine Tr.of rfl (Nat.le_of_ble_eq_true rfl) (vs := [some (.ref (G.1 100)), some (.int v1)]) rfl ?_
      refine a_aload_n eX8_loses_0 rfl ?_
      refine a_iload_n eX8_loses_1 rfl ?_
      refine a_iconst (v := 0) eX8_loses_2 (by decide) ?_
      refine qX8_86 rfl eX8_loses_3 (Nat.le_of_ble_eq_true rfl) ?_
      refine Tr.of rfl (Nat.le_of_ble_eq_true rfl) (vs := [some (.ref (G.1 100)), some (.int v1), some (.int 0)]) rfl ?_
      refine a_aload_n eX8_of_0 rfl ?_
      refine gX8_0 eX8_of_1 fl_X8_7 ?_
      refine a_bipush (v := 10) eX8_of_4 (by decide) ?_
      refine a_iconst (v := 4) eX8_of_6 (by decide) ?_
      refine a_iload_n eX8_of_7 rfl ?_
      refine a_imul eX8_of_8 ?_
      refine a_iadd eX8_of_9 ?_
      refine a_iload_n eX8_of_10 rfl ?_
      refine a_iadd eX8_of_11 ?_
      obtain ⟨h22, hv⟩ := hv
      refine a_iald eX8_of_12 sA101 kA101 h22 ?_
      refine a_iret eX8_of_13 rfl rfl (ret_i ?_)
      refine a_iconst (v := 1) eX8_loses_6 (by decide) ?_
      refine a_icmp_ne (tgt := 14) eX8_loses_7 (by decide) (fun w23 => ?_) (fun w23 => ?_)
      · replace hv := hv.2 w23
        refine a_aload_n eX8_loses_14 rfl ?_
        refine a_iload_n eX8_loses_15 rfl ?_
        refine a_iconst (v := 0) eX8_loses_16 (by decide) ?_
        refine qX8_86 rfl eX8_loses_17 (Nat.le_of_ble_eq_true rfl) ?_
        refine Tr.of rfl (Nat.le_of_ble_eq_true rfl) (vs := [some (.ref (G.1 100)), some (.int v1), some (.int 0)]) rfl ?_
        refine a_aload_n eX8_of_0 rfl ?_
        refine gX8_0 eX8_of_1 fl_X8_7 ?_
        refine a_bipush (v := 10) eX8_of_4 (by decide) ?_
        refine a_iconst (v := 4) eX8_of_6 (by decide) ?_
        refine a_iload_n eX8_of_7 rfl ?_
        refine a_imul eX8_of_8 ?_
        refine a_iadd eX8_of_9 ?_
        refine a_iload_n eX8_of_10 rfl ?_
        refine a_iadd eX8_of_11 ?_
        obtain ⟨h24, hv⟩ := hv
        refine a_iald eX8_of_12 sA101 kA101 h24 ?_
        refine a_iret eX8_of_13 rfl rfl (ret_i ?_)
        refine a_iconst (v := 3) eX8_loses_20 (by decide) ?_
        refine a_icmp_ne (tgt := 28) eX8_loses_21 (by decide) (fun w25 => ?_) (fun w25 => ?_)
        · replace hv := hv.2 w25
          refine a_iconst (v := 1) eX8_loses_28 (by decide) ?_
          refine a_iret eX8_loses_29 rfl rfl (ret_i ?_)
          refine a_goto (tgt := 40) eX8_ages_36 (by decide) ?_
          exact a_weak [true, true, false, false] rfl rfl hv
        · replace hv := hv.1 w25
          refine a_iconst (v := 2) eX8_loses_24 (by decide) ?_
          refine a_goto (tgt := 29) eX8_loses_25 (by decide) ?_
          refine a_iret eX8_loses_29 rfl rfl (ret_i ?_)
          refine a_goto (tgt := 40) eX8_ages_36 (by decide) ?_
          exact a_weak [true, true, false, false] rfl rfl hv
      · replace hv := hv.1 w23
        refine a_iconst (v := 0) eX8_loses_10 (by decide) ?_
        refine a_goto (tgt := 29) eX8_loses_11 (by decide) ?_
        refine a_iret eX8_loses_29 rfl rfl (ret_i ?_)
        refine a_goto (tgt := 40) eX8_ages_36 (by decide) ?_
        exact a_weak [true, true, false, false] rfl rfl hv
theorem bX8_ages_40 {l : Launch} {G : GT} {d : Nat} {M : Mem} {R : Option Value → Mem → Prop} {v1 : Int32} {t0 : Int32} (hv : At l G (d + 4) mX8_ages 43 [some (.ref (G.1 100)), some (.int v1), some (.int t0), some (.int 0)] [] M R) : At l G (d + 4) mX8_ages 40 [some (.ref (G.1 100)), some (.int v1), none, none] [.int t0] M R := by
  refine a_istore_n (vs' := [some (.ref (G.1 100)), some (.int v1), some (.int t0), none]) eX8_ages_40 rfl (Nat.le_of_ble_eq_true rfl) rfl ?_
  refine a_iconst (v := 0) eX8_ages_41 (by decide) ?_
  refine a_istore_n (vs' := [some (.ref (G.1 100)), some (.int v1), some (.int t0), some (.int 0)]) eX8_ages_42 rfl (Nat.le_of_ble_eq_true rfl) rfl ?_
  exact a_weak [true, true, true, true] rfl rfl hv
theorem bX8_ages_43 {l : Launch} {G : GT} {d : Nat} {M : Mem} {R : Option Value → Mem → Prop} {v1 : Int32} {v2 : Int32} {v3 : Int32} (hv : (14 ≤ v3 → R none M) ∧ (¬ (14 ≤ v3) → (v2 ≤ 0 → R none M) ∧ (¬ (v2 ≤ 0) → vp_in ((10 + (4 * v1)) + 3) 3084 ∧ ((((M 101 (ix ((10 + (4 * v1)) + 3))) >>> (v3 &&& 31)) &&& 1) = 1 → vp_in ((10 + (4 * v1)) + 3) 3084 ∧ vp_in ((10 + (4 * v1)) + 3) 3084 ∧ ∀ M7 : Mem, M7 = um M 101 (ix ((10 + (4 * v1)) + 3)) ((M 101 (ix ((10 + (4 * v1)) + 3))) &&& (((1 : Int32) <<< (v3 &&& 31)) ^^^ (-1))) → At l G (d + 4) mX8_ages 98 [some (.ref (G.1 100)), some (.int v1), some (.int (v2 + (-1))), some (.int v3)] [] (um M7 101 8 ((M7 101 8) + 1)) R) ∧ (¬ ((((M 101 (ix ((10 + (4 * v1)) + 3))) >>> (v3 &&& 31)) &&& 1) = 1) → At l G (d + 4) mX8_ages 98 [some (.ref (G.1 100)), some (.int v1), some (.int v2), some (.int v3)] [] M R)))) : At l G (d + 4) mX8_ages 43 [some (.ref (G.1 100)), some (.int v1), some (.int v2), some (.int v3)] [] M R := by
  refine a_iload_n eX8_ages_43 rfl ?_
  refine a_bipush (v := 14) eX8_ages_44 (by decide) ?_
  refine a_icmp_ge (tgt := 104) eX8_ages_46 (by decide) (fun w1 => ?_) (fun w1 => ?_)
  · replace hv := hv.1 w1
    exact a_vret eX8_ages_104 rfl hv
  · replace hv := hv.2 w1
    refine a_iload_n eX8_ages_49 rfl ?_
    refine a_if_le (tgt := 104) eX8_ages_50 (by decide) (fun w2 => ?_) (fun w2 => ?_)
    · replace hv := hv.1 w2
      exact a_vret eX8_ages_104 rfl hv
    · replace hv := hv.2 w2
      refine a_aload_n eX8_ages_53 rfl ?_
      refine a_iload_n eX8_ages_54 rfl ?_
      refine a_iconst (v := 3) eX8_ages_55 (by decide) ?_
      refine qX8_86 rfl eX8_ages_56 (Nat.le_of_ble_eq_true rfl) ?_
      refine Tr.of rfl (Nat.le_of_ble_eq_true rfl) (vs := [some (.ref (G.1 100)), some (.int v1), some (.int 3)]) rfl ?_
      refine a_aload_n eX8_of_0 rfl ?_
      refine gX8_0 eX8_of_1 fl_X8_7 ?_
      refine a_bipush (v := 10) eX8_of_4 (by decide) ?_
      refine a_iconst (v := 4) eX8_of_6 (by decide) ?_
      refine a_iload_n eX8_of_7 rfl ?_
      refine a_imul eX8_of_8 ?_
      refine a_iadd eX8_of_9 ?_
      refine a_iload_n eX8_of_10 rfl ?_
      refine a_iadd eX8_of_11 ?_
      obtain ⟨h3, hv⟩ := hv
      refine a_iald eX8_of_12 sA101 kA101 h3 ?_
      refine a_iret eX8_of_13 rfl rfl (ret_i ?_)
      refine a_iload_n eX8_ages_59 rfl ?_
      refine qX8_149 rfl eX8_ages_60 (Nat.le_of_ble_eq_true rfl) ?_
      refine Tr.of rfl (Nat.le_of_ble_eq_true rfl) (vs := [some (.int (M 101 (ix ((10 + (4 * v1)) + 3)))), some (.int v3)]) rfl ?_
      refine a_iload_n eX8_isAmong_0 rfl ?_
      refine a_iload_n eX8_isAmong_1 rfl ?_
      refine a_ishr eX8_isAmong_2 ?_
      refine a_iconst (v := 1) eX8_isAmong_3 (by decide) ?_
      refine a_iand eX8_isAmong_4 ?_
      refine a_iconst (v := 1) eX8_isAmong_5 (by decide) ?_
      refine a_icmp_ne (tgt := 13) eX8_isAmong_6 (by decide) (fun w4 => ?_) (fun w4 => ?_)
      · replace hv := hv.2 w4
        refine a_iconst (v := 0) eX8_isAmong_13 (by decide) ?_
        refine a_iret eX8_isAmong_14 rfl rfl (ret_i ?_)
        refine a_if_eq (tgt := 98) eX8_ages_63 (by decide) (fun _ => ?_) (fun h => absurd h (by decide))
        exact a_weak [true, true, true, true] rfl rfl hv
      · replace hv := hv.1 w4
        refine a_iconst (v := 1) eX8_isAmong_9 (by decide) ?_
        refine a_goto (tgt := 14) eX8_isAmong_10 (by decide) ?_
        refine a_iret eX8_isAmong_14 rfl rfl (ret_i ?_)
        refine a_if_eq (tgt := 98) eX8_ages_63 (by decide) (fun h => absurd h (by decide)) (fun _ => ?_)
        refine a_aload_n eX8_ages_66 rfl ?_
        refine a_iload_n eX8_ages_67 rfl ?_
        refine a_iconst (v := 3) eX8_ages_68 (by decide) ?_
        refine a_aload_n eX8_ages_69 rfl ?_
        refine a_iload_n eX8_ages_70 rfl ?_
        refine a_iconst (v := 3) eX8_ages_71 (by decide) ?_
        refine qX8_86 rfl eX8_ages_72 (Nat.le_of_ble_eq_true rfl) ?_
        refine Tr.of rfl (Nat.le_of_ble_eq_true rfl) (vs := [some (.ref (G.1 100)), some (.int v1), some (.int 3)]) rfl ?_
        refine a_aload_n eX8_of_0 rfl ?_
        refine gX8_0 eX8_of_1 fl_X8_7 ?_
        refine a_bipush (v := 10) eX8_of_4 (by decide) ?_
        refine a_iconst (v := 4) eX8_of_6 (by decide) ?_
        refine a_iload_n eX8_of_7 rfl ?_
        refine a_imul eX8_of_8 ?_
        refine a_iadd eX8_of_9 ?_
        refine a_iload_n eX8_of_10 rfl ?_
        refine a_iadd eX8_of_11 ?_
        obtain ⟨h5, hv⟩ := hv
        refine a_iald eX8_of_12 sA101 kA101 h5 ?_
        refine a_iret eX8_of_13 rfl rfl (ret_i ?_)
        refine a_iconst (v := 1) eX8_ages_75 (by decide) ?_
        refine a_iload_n eX8_ages_76 rfl ?_
        refine a_ishl eX8_ages_77 ?_
        refine a_iconst (v := (-1)) eX8_ages_78 (by decide) ?_
        refine a_ixor eX8_ages_79 ?_
        refine a_iand eX8_ages_80 ?_
        refine qX8_105 rfl eX8_ages_81 (Nat.le_of_ble_eq_true rfl) ?_
        refine Tr.of rfl (Nat.le_of_ble_eq_true rfl) (vs := [some (.ref (G.1 100)), some (.int v1), some (.int 3), some (.int ((M 101 (ix ((10 + (4 * v1)) + 3))) &&& (((1 : Int32) <<< (v3 &&& 31)) ^^^ (-1))))]) rfl ?_
        refine a_aload_n eX8_sets_0 rfl ?_
        refine gX8_0 eX8_sets_1 fl_X8_7 ?_
        refine a_bipush (v := 10) eX8_sets_4 (by decide) ?_
        refine a_iconst (v := 4) eX8_sets_6 (by decide) ?_
        refine a_iload_n eX8_sets_7 rfl ?_
        refine a_imul eX8_sets_8 ?_
        refine a_iadd eX8_sets_9 ?_
        refine a_iload_n eX8_sets_10 rfl ?_
        refine a_iadd eX8_sets_11 ?_
        refine a_iload_n eX8_sets_12 rfl ?_
        obtain ⟨h6, hv⟩ := hv
        refine a_iast eX8_sets_13 sA101 kA101 h6 ?_
        refine a_nm (fun M7 eM7 => ?_)
        replace hv := hv M7 eM7
        refine a_vret eX8_sets_14 rfl (ret_v ?_)
        refine a_aload_n eX8_ages_84 rfl ?_
        refine gX8_0 eX8_ages_85 fl_X8_7 ?_
        refine a_bipush (v := 8) eX8_ages_88 (by decide) ?_
        refine a_dup2 eX8_ages_90 rfl rfl ?_
        refine a_ialdc 8 eX8_ages_91 sA101 kA101 (by decide) (by decide) ?_
        refine a_iconst (v := 1) eX8_ages_92 (by decide) ?_
        refine a_iadd eX8_ages_93 ?_
        refine a_iastc 8 eX8_ages_94 sA101 kA101 (by decide) (by decide) ?_
        refine a_iinc (v := (-1)) (vs' := [some (.ref (G.1 100)), some (.int v1), some (.int (v2 + (-1))), some (.int v3)]) eX8_ages_95 rfl rfl (by decide) rfl ?_
        exact a_weak [true, true, true, true] rfl rfl hv
theorem bX8_ages_98 {l : Launch} {G : GT} {d : Nat} {M : Mem} {R : Option Value → Mem → Prop} {v1 : Int32} {v2 : Int32} {v3 : Int32} (hv : At l G (d + 4) mX8_ages 43 [some (.ref (G.1 100)), some (.int v1), some (.int v2), some (.int (v3 + 1))] [] M R) : At l G (d + 4) mX8_ages 98 [some (.ref (G.1 100)), some (.int v1), some (.int v2), some (.int v3)] [] M R := by
  refine a_iinc (v := 1) (vs' := [some (.ref (G.1 100)), some (.int v1), some (.int v2), some (.int (v3 + 1))]) eX8_ages_98 rfl rfl (by decide) rfl ?_
  refine a_goto (tgt := 43) eX8_ages_101 (by decide) ?_
  exact a_weak [true, true, true, true] rfl rfl hv
theorem tX8_goesOn {l : Launch} {G : GT} {d : Nat} {M : Mem} {R : Option Value → Mem → Prop}  (hv : At l G (d + 4) mX8_goesOn 2 [some (.ref (G.1 100)), some (.int 0)] [] M R) : Tr l G (d + 4) mX8_goesOn [.ref (G.1 100)] M R := by
  refine Tr.of rfl (Nat.le_of_ble_eq_true rfl) (vs := [some (.ref (G.1 100)), none]) rfl ?_
  refine a_iconst (v := 0) eX8_goesOn_0 (by decide) ?_
  refine a_istore_n (vs' := [some (.ref (G.1 100)), some (.int 0)]) eX8_goesOn_1 rfl (Nat.le_of_ble_eq_true rfl) rfl ?_
  exact a_weak [true, true] rfl rfl hv
theorem bX8_goesOn_2 {l : Launch} {G : GT} {d : Nat} {M : Mem} {R : Option Value → Mem → Prop} {v1 : Int32} (hv : ((M 101 0) ≤ v1 → At l G (d + 4) mX8_goesOn 60 [some (.ref (G.1 100)), some (.int 0)] [] M R) ∧ (¬ ((M 101 0) ≤ v1) → Tr l G (d + 3) mX8_urge [.ref (G.1 100), .int v1] (um M 101 9 (((M 101 9) * 1103515245) + 12345)) (kI fun q M' => At l G (d + 4) mX8_goesOn 24 [some (.ref (G.1 100)), some (.int v1)] [.int q, .int (((((um M 101 9 (((M 101 9) * 1103515245) + 12345)) 101 9).toUInt32 >>> ((8 : Int32).toUInt32 &&& Int32.toUInt32 31)).toInt32) - ((((um M 101 9 (((M 101 9) * 1103515245) + 12345)) 101 9).toUInt32 >>> ((8 : Int32).toUInt32 &&& Int32.toUInt32 31)).toInt32) / 100 * 100)] M' R))) : At l G (d + 4) mX8_goesOn 2 [some (.ref (G.1 100)), some (.int v1)] [] M R := by
  refine a_iload_n eX8_goesOn_2 rfl ?_
  refine a_aload_n eX8_goesOn_3 rfl ?_
  refine gX8_0 eX8_goesOn_4 fl_X8_7 ?_
  refine a_iconst (v := 0) eX8_goesOn_7 (by decide) ?_
  refine a_ialdc 0 eX8_goesOn_8 sA101 kA101 (by decide) (by decide) ?_
  refine a_icmp_ge (tgt := 58) eX8_goesOn_9 (by decide) (fun w1 => ?_) (fun w1 => ?_)
  · replace hv := hv.1 w1
    refine a_iconst (v := 0) eX8_goesOn_58 (by decide) ?_
    refine a_istore_n (vs' := [some (.ref (G.1 100)), some (.int 0)]) eX8_goesOn_59 rfl (Nat.le_of_ble_eq_true rfl) rfl ?_
    exact a_weak [true, true] rfl rfl hv
  · replace hv := hv.2 w1
    refine a_aload_n eX8_goesOn_12 rfl ?_
    refine qX8_169 rfl eX8_goesOn_13 (Nat.le_of_ble_eq_true rfl) ?_
    refine Tr.of rfl (Nat.le_of_ble_eq_true rfl) (vs := [some (.ref (G.1 100))]) rfl ?_
    refine a_aload_n eX8_drawn_0 rfl ?_
    refine gX8_0 eX8_drawn_1 fl_X8_7 ?_
    refine a_bipush (v := 9) eX8_drawn_4 (by decide) ?_
    refine a_aload_n eX8_drawn_6 rfl ?_
    refine gX8_0 eX8_drawn_7 fl_X8_7 ?_
    refine a_bipush (v := 9) eX8_drawn_10 (by decide) ?_
    refine a_ialdc 9 eX8_drawn_12 sA101 kA101 (by decide) (by decide) ?_
    refine a_ldc eX8_drawn_13 kc_X8_72 ?_
    refine a_imul eX8_drawn_15 ?_
    refine a_sipush (v := 12345) eX8_drawn_16 (by decide) ?_
    refine a_iadd eX8_drawn_19 ?_
    refine a_iastc 9 eX8_drawn_20 sA101 kA101 (by decide) (by decide) ?_
    refine a_aload_n eX8_drawn_21 rfl ?_
    refine gX8_0 eX8_drawn_22 fl_X8_7 ?_
    refine a_bipush (v := 9) eX8_drawn_25 (by decide) ?_
    refine a_ialdc 9 eX8_drawn_27 sA101 kA101 (by decide) (by decide) ?_
    refine a_bipush (v := 8) eX8_drawn_28 (by decide) ?_
    refine a_iushr eX8_drawn_30 ?_
    refine a_iret eX8_drawn_31 rfl rfl (ret_i ?_)
    refine a_bipush (v := 100) eX8_goesOn_16 (by decide) ?_
    refine a_irem eX8_goesOn_18 (by decide) ?_
    refine a_aload_n eX8_goesOn_19 rfl ?_
    refine a_iload_n eX8_goesOn_20 rfl ?_
    exact qX8_131 rfl eX8_goesOn_21 (Nat.le_of_ble_eq_true rfl) (tr_I [true, true] rfl rfl hv)
theorem bX8_goesOn_24 {l : Launch} {G : GT} {d : Nat} {M : Mem} {R : Option Value → Mem → Prop} {v1 : Int32} {r : Int32} {t1 : Int32} (hv : (r ≤ t1 → At l G (d + 4) mX8_goesOn 2 [some (.ref (G.1 100)), some (.int (v1 + 1))] [] M R) ∧ (¬ (r ≤ t1) → ((M 101 3) ≤ 0 → At l G (d + 4) mX8_goesOn 2 [some (.ref (G.1 100)), some (.int (v1 + 1))] [] M R) ∧ (¬ ((M 101 3) ≤ 0) → ¬ ((um M 101 9 (((M 101 9) * 1103515245) + 12345)) 101 3) = 0 ∧ Tr l G (d + 3) mX8_walks [.ref (G.1 100), .int v1, .int (((((um M 101 9 (((M 101 9) * 1103515245) + 12345)) 101 9).toUInt32 >>> ((8 : Int32).toUInt32 &&& Int32.toUInt32 31)).toInt32) - ((((um M 101 9 (((M 101 9) * 1103515245) + 12345)) 101 9).toUInt32 >>> ((8 : Int32).toUInt32 &&& Int32.toUInt32 31)).toInt32) / ((um M 101 9 (((M 101 9) * 1103515245) + 12345)) 101 3) * ((um M 101 9 (((M 101 9) * 1103515245) + 12345)) 101 3))] (um M 101 9 (((M 101 9) * 1103515245) + 12345)) (kV fun M' => At l G (d + 4) mX8_goesOn 52 [some (.ref (G.1 100)), some (.int v1)] [] M' R)))) : At l G (d + 4) mX8_goesOn 24 [some (.ref (G.1 100)), some (.int v1)] [.int r, .int t1] M R := by
  refine a_icmp_ge (tgt := 52) eX8_goesOn_24 (by decide) (fun w1 => ?_) (fun w1 => ?_)
  · replace hv := hv.1 w1
    refine a_iinc (v := 1) (vs' := [some (.ref (G.1 100)), some (.int (v1 + 1))]) eX8_goesOn_52 rfl rfl (by decide) rfl ?_
    refine a_goto (tgt := 2) eX8_goesOn_55 (by decide) ?_
    exact a_weak [true, true] rfl rfl hv
  · replace hv := hv.2 w1
    refine a_aload_n eX8_goesOn_27 rfl ?_
    refine gX8_0 eX8_goesOn_28 fl_X8_7 ?_
    refine a_iconst (v := 3) eX8_goesOn_31 (by decide) ?_
    refine a_ialdc 3 eX8_goesOn_32 sA101 kA101 (by decide) (by decide) ?_
    refine a_if_le (tgt := 52) eX8_goesOn_33 (by decide) (fun w2 => ?_) (fun w2 => ?_)
    · replace hv := hv.1 w2
      refine a_iinc (v := 1) (vs' := [some (.ref (G.1 100)), some (.int (v1 + 1))]) eX8_goesOn_52 rfl rfl (by decide) rfl ?_
      refine a_goto (tgt := 2) eX8_goesOn_55 (by decide) ?_
      exact a_weak [true, true] rfl rfl hv
    · replace hv := hv.2 w2
      refine a_aload_n eX8_goesOn_36 rfl ?_
      refine a_iload_n eX8_goesOn_37 rfl ?_
      refine a_aload_n eX8_goesOn_38 rfl ?_
      refine qX8_169 rfl eX8_goesOn_39 (Nat.le_of_ble_eq_true rfl) ?_
      refine Tr.of rfl (Nat.le_of_ble_eq_true rfl) (vs := [some (.ref (G.1 100))]) rfl ?_
      refine a_aload_n eX8_drawn_0 rfl ?_
      refine gX8_0 eX8_drawn_1 fl_X8_7 ?_
      refine a_bipush (v := 9) eX8_drawn_4 (by decide) ?_
      refine a_aload_n eX8_drawn_6 rfl ?_
      refine gX8_0 eX8_drawn_7 fl_X8_7 ?_
      refine a_bipush (v := 9) eX8_drawn_10 (by decide) ?_
      refine a_ialdc 9 eX8_drawn_12 sA101 kA101 (by decide) (by decide) ?_
      refine a_ldc eX8_drawn_13 kc_X8_72 ?_
      refine a_imul eX8_drawn_15 ?_
      refine a_sipush (v := 12345) eX8_drawn_16 (by decide) ?_
      refine a_iadd eX8_drawn_19 ?_
      refine a_iastc 9 eX8_drawn_20 sA101 kA101 (by decide) (by decide) ?_
      refine a_aload_n eX8_drawn_21 rfl ?_
      refine gX8_0 eX8_drawn_22 fl_X8_7 ?_
      refine a_bipush (v := 9) eX8_drawn_25 (by decide) ?_
      refine a_ialdc 9 eX8_drawn_27 sA101 kA101 (by decide) (by decide) ?_
      refine a_bipush (v := 8) eX8_drawn_28 (by decide) ?_
      refine a_iushr eX8_drawn_30 ?_
      refine a_iret eX8_drawn_31 rfl rfl (ret_i ?_)
      refine a_aload_n eX8_goesOn_42 rfl ?_
      refine gX8_0 eX8_goesOn_43 fl_X8_7 ?_
      refine a_iconst (v := 3) eX8_goesOn_46 (by decide) ?_
      refine a_ialdc 3 eX8_goesOn_47 sA101 kA101 (by decide) (by decide) ?_
      obtain ⟨h3, hv⟩ := hv
      refine a_irem eX8_goesOn_48 h3 ?_
      exact qX8_186 rfl eX8_goesOn_49 (Nat.le_of_ble_eq_true rfl) (tr_V [true, true] rfl rfl hv)
theorem bX8_goesOn_52 {l : Launch} {G : GT} {d : Nat} {M : Mem} {R : Option Value → Mem → Prop} {v1 : Int32} (hv : At l G (d + 4) mX8_goesOn 2 [some (.ref (G.1 100)), some (.int (v1 + 1))] [] M R) : At l G (d + 4) mX8_goesOn 52 [some (.ref (G.1 100)), some (.int v1)] [] M R := by
  refine a_iinc (v := 1) (vs' := [some (.ref (G.1 100)), some (.int (v1 + 1))]) eX8_goesOn_52 rfl rfl (by decide) rfl ?_
  refine a_goto (tgt := 2) eX8_goesOn_55 (by decide) ?_
  exact a_weak [true, true] rfl rfl hv
theorem bX8_goesOn_60 {l : Launch} {G : GT} {d : Nat} {M : Mem} {R : Option Value → Mem → Prop} {v1 : Int32} (hv : ((M 101 0) ≤ v1 → (((um M 101 9 (((M 101 9) * 1103515245) + 12345)) 101 5) ≤ (((((um M 101 9 (((M 101 9) * 1103515245) + 12345)) 101 9).toUInt32 >>> ((8 : Int32).toUInt32 &&& Int32.toUInt32 31)).toInt32) - ((((um M 101 9 (((M 101 9) * 1103515245) + 12345)) 101 9).toUInt32 >>> ((8 : Int32).toUInt32 &&& Int32.toUInt32 31)).toInt32) / 100 * 100) → ∀ M3 : Mem, M3 = um (um M 101 9 (((M 101 9) * 1103515245) + 12345)) 101 2 (((um M 101 9 (((M 101 9) * 1103515245) + 12345)) 101 2) + 1) → R none M3) ∧ (¬ (((um M 101 9 (((M 101 9) * 1103515245) + 12345)) 101 5) ≤ (((((um M 101 9 (((M 101 9) * 1103515245) + 12345)) 101 9).toUInt32 >>> ((8 : Int32).toUInt32 &&& Int32.toUInt32 31)).toInt32) - ((((um M 101 9 (((M 101 9) * 1103515245) + 12345)) 101 9).toUInt32 >>> ((8 : Int32).toUInt32 &&& Int32.toUInt32 31)).toInt32) / 100 * 100)) → (((um M 101 9 (((M 101 9) * 1103515245) + 12345)) 101 3) ≤ 0 → ∀ M5 : Mem, M5 = um (um M 101 9 (((M 101 9) * 1103515245) + 12345)) 101 2 (((um M 101 9 (((M 101 9) * 1103515245) + 12345)) 101 2) + 1) → R none M5) ∧ (¬ (((um M 101 9 (((M 101 9) * 1103515245) + 12345)) 101 3) ≤ 0) → ∀ M6 : Mem, M6 = um (um M 101 9 (((M 101 9) * 1103515245) + 12345)) 101 9 ((((um M 101 9 (((M 101 9) * 1103515245) + 12345)) 101 9) * 1103515245) + 12345) → ¬ (M6 101 3) = 0 ∧ vp_in ((42 + (3 * ((((M6 101 9).toUInt32 >>> ((8 : Int32).toUInt32 &&& Int32.toUInt32 31)).toInt32) - (((M6 101 9).toUInt32 >>> ((8 : Int32).toUInt32 &&& Int32.toUInt32 31)).toInt32) / (M6 101 3) * (M6 101 3)))) + 2) 3084 ∧ vp_in ((42 + (3 * ((((M6 101 9).toUInt32 >>> ((8 : Int32).toUInt32 &&& Int32.toUInt32 31)).toInt32) - (((M6 101 9).toUInt32 >>> ((8 : Int32).toUInt32 &&& Int32.toUInt32 31)).toInt32) / (M6 101 3) * (M6 101 3)))) + 2) 3084 ∧ ∀ M10 : Mem, M10 = um M6 101 (ix ((42 + (3 * ((((M6 101 9).toUInt32 >>> ((8 : Int32).toUInt32 &&& Int32.toUInt32 31)).toInt32) - (((M6 101 9).toUInt32 >>> ((8 : Int32).toUInt32 &&& Int32.toUInt32 31)).toInt32) / (M6 101 3) * (M6 101 3)))) + 2)) (1 - (M6 101 (ix ((42 + (3 * ((((M6 101 9).toUInt32 >>> ((8 : Int32).toUInt32 &&& Int32.toUInt32 31)).toInt32) - (((M6 101 9).toUInt32 >>> ((8 : Int32).toUInt32 &&& Int32.toUInt32 31)).toInt32) / (M6 101 3) * (M6 101 3)))) + 2)))) → R none (um M10 101 2 ((M10 101 2) + 1))))) ∧ (¬ ((M 101 0) ≤ v1) → Tr l G (d + 3) mX8_ages [.ref (G.1 100), .int v1] M (kV fun M' => At l G (d + 4) mX8_goesOn 75 [some (.ref (G.1 100)), some (.int v1)] [] M' R))) : At l G (d + 4) mX8_goesOn 60 [some (.ref (G.1 100)), some (.int v1)] [] M R := by
  refine a_iload_n eX8_goesOn_60 rfl ?_
  refine a_aload_n eX8_goesOn_61 rfl ?_
  refine gX8_0 eX8_goesOn_62 fl_X8_7 ?_
  refine a_iconst (v := 0) eX8_goesOn_65 (by decide) ?_
  refine a_ialdc 0 eX8_goesOn_66 sA101 kA101 (by decide) (by decide) ?_
  refine a_icmp_ge (tgt := 81) eX8_goesOn_67 (by decide) (fun w1 => ?_) (fun w1 => ?_)
  · replace hv := hv.1 w1
    refine a_aload_n eX8_goesOn_81 rfl ?_
    refine qX8_169 rfl eX8_goesOn_82 (Nat.le_of_ble_eq_true rfl) ?_
    refine Tr.of rfl (Nat.le_of_ble_eq_true rfl) (vs := [some (.ref (G.1 100))]) rfl ?_
    refine a_aload_n eX8_drawn_0 rfl ?_
    refine gX8_0 eX8_drawn_1 fl_X8_7 ?_
    refine a_bipush (v := 9) eX8_drawn_4 (by decide) ?_
    refine a_aload_n eX8_drawn_6 rfl ?_
    refine gX8_0 eX8_drawn_7 fl_X8_7 ?_
    refine a_bipush (v := 9) eX8_drawn_10 (by decide) ?_
    refine a_ialdc 9 eX8_drawn_12 sA101 kA101 (by decide) (by decide) ?_
    refine a_ldc eX8_drawn_13 kc_X8_72 ?_
    refine a_imul eX8_drawn_15 ?_
    refine a_sipush (v := 12345) eX8_drawn_16 (by decide) ?_
    refine a_iadd eX8_drawn_19 ?_
    refine a_iastc 9 eX8_drawn_20 sA101 kA101 (by decide) (by decide) ?_
    refine a_aload_n eX8_drawn_21 rfl ?_
    refine gX8_0 eX8_drawn_22 fl_X8_7 ?_
    refine a_bipush (v := 9) eX8_drawn_25 (by decide) ?_
    refine a_ialdc 9 eX8_drawn_27 sA101 kA101 (by decide) (by decide) ?_
    refine a_bipush (v := 8) eX8_drawn_28 (by decide) ?_
    refine a_iushr eX8_drawn_30 ?_
    refine a_iret eX8_drawn_31 rfl rfl (ret_i ?_)
    refine a_bipush (v := 100) eX8_goesOn_85 (by decide) ?_
    refine a_irem eX8_goesOn_87 (by decide) ?_
    refine a_aload_n eX8_goesOn_88 rfl ?_
    refine gX8_0 eX8_goesOn_89 fl_X8_7 ?_
    refine a_iconst (v := 5) eX8_goesOn_92 (by decide) ?_
    refine a_ialdc 5 eX8_goesOn_93 sA101 kA101 (by decide) (by decide) ?_
    refine a_icmp_ge (tgt := 146) eX8_goesOn_94 (by decide) (fun w2 => ?_) (fun w2 => ?_)
    · replace hv := hv.1 w2
      refine a_aload_n eX8_goesOn_146 rfl ?_
      refine gX8_0 eX8_goesOn_147 fl_X8_7 ?_
      refine a_iconst (v := 2) eX8_goesOn_150 (by decide) ?_
      refine a_dup2 eX8_goesOn_151 rfl rfl ?_
      refine a_ialdc 2 eX8_goesOn_152 sA101 kA101 (by decide) (by decide) ?_
      refine a_iconst (v := 1) eX8_goesOn_153 (by decide) ?_
      refine a_iadd eX8_goesOn_154 ?_
      refine a_iastc 2 eX8_goesOn_155 sA101 kA101 (by decide) (by decide) ?_
      refine a_nm (fun M3 eM3 => ?_)
      replace hv := hv M3 eM3
      exact a_vret eX8_goesOn_156 rfl hv
    · replace hv := hv.2 w2
      refine a_aload_n eX8_goesOn_97 rfl ?_
      refine gX8_0 eX8_goesOn_98 fl_X8_7 ?_
      refine a_iconst (v := 3) eX8_goesOn_101 (by decide) ?_
      refine a_ialdc 3 eX8_goesOn_102 sA101 kA101 (by decide) (by decide) ?_
      refine a_if_le (tgt := 146) eX8_goesOn_103 (by decide) (fun w4 => ?_) (fun w4 => ?_)
      · replace hv := hv.1 w4
        refine a_aload_n eX8_goesOn_146 rfl ?_
        refine gX8_0 eX8_goesOn_147 fl_X8_7 ?_
        refine a_iconst (v := 2) eX8_goesOn_150 (by decide) ?_
        refine a_dup2 eX8_goesOn_151 rfl rfl ?_
        refine a_ialdc 2 eX8_goesOn_152 sA101 kA101 (by decide) (by decide) ?_
        refine a_iconst (v := 1) eX8_goesOn_153 (by decide) ?_
        refine a_iadd eX8_goesOn_154 ?_
        refine a_iastc 2 eX8_goesOn_155 sA101 kA101 (by decide) (by decide) ?_
        refine a_nm (fun M5 eM5 => ?_)
        replace hv := hv M5 eM5
        exact a_vret eX8_goesOn_156 rfl hv
      · replace hv := hv.2 w4
        refine a_aload_n eX8_goesOn_106 rfl ?_
        refine qX8_169 rfl eX8_goesOn_107 (Nat.le_of_ble_eq_true rfl) ?_
        refine Tr.of rfl (Nat.le_of_ble_eq_true rfl) (vs := [some (.ref (G.1 100))]) rfl ?_
        refine a_aload_n eX8_drawn_0 rfl ?_
        refine gX8_0 eX8_drawn_1 fl_X8_7 ?_
        refine a_bipush (v := 9) eX8_drawn_4 (by decide) ?_
        refine a_aload_n eX8_drawn_6 rfl ?_
        refine gX8_0 eX8_drawn_7 fl_X8_7 ?_
        refine a_bipush (v := 9) eX8_drawn_10 (by decide) ?_
        refine a_ialdc 9 eX8_drawn_12 sA101 kA101 (by decide) (by decide) ?_
        refine a_ldc eX8_drawn_13 kc_X8_72 ?_
        refine a_imul eX8_drawn_15 ?_
        refine a_sipush (v := 12345) eX8_drawn_16 (by decide) ?_
        refine a_iadd eX8_drawn_19 ?_
        refine a_iastc 9 eX8_drawn_20 sA101 kA101 (by decide) (by decide) ?_
        refine a_nm (fun M6 eM6 => ?_)
        replace hv := hv M6 eM6
        refine a_aload_n eX8_drawn_21 rfl ?_
        refine gX8_0 eX8_drawn_22 fl_X8_7 ?_
        refine a_bipush (v := 9) eX8_drawn_25 (by decide) ?_
        refine a_ialdc 9 eX8_drawn_27 sA101 kA101 (by decide) (by decide) ?_
        refine a_bipush (v := 8) eX8_drawn_28 (by decide) ?_
        refine a_iushr eX8_drawn_30 ?_
        refine a_iret eX8_drawn_31 rfl rfl (ret_i ?_)
        refine a_aload_n eX8_goesOn_110 rfl ?_
        refine gX8_0 eX8_goesOn_111 fl_X8_7 ?_
        refine a_iconst (v := 3) eX8_goesOn_114 (by decide) ?_
        refine a_ialdc 3 eX8_goesOn_115 sA101 kA101 (by decide) (by decide) ?_
        obtain ⟨h7, hv⟩ := hv
        refine a_irem eX8_goesOn_116 h7 ?_
        refine a_istore_n (vs' := [some (.ref (G.1 100)), some (.int ((((M6 101 9).toUInt32 >>> ((8 : Int32).toUInt32 &&& Int32.toUInt32 31)).toInt32) - (((M6 101 9).toUInt32 >>> ((8 : Int32).toUInt32 &&& Int32.toUInt32 31)).toInt32) / (M6 101 3) * (M6 101 3)))]) eX8_goesOn_117 rfl (Nat.le_of_ble_eq_true rfl) rfl ?_
        refine a_aload_n eX8_goesOn_118 rfl ?_
        refine gX8_0 eX8_goesOn_119 fl_X8_7 ?_
        refine a_bipush (v := 42) eX8_goesOn_122 (by decide) ?_
        refine a_iconst (v := 3) eX8_goesOn_124 (by decide) ?_
        refine a_iload_n eX8_goesOn_125 rfl ?_
        refine a_imul eX8_goesOn_126 ?_
        refine a_iadd eX8_goesOn_127 ?_
        refine a_iconst (v := 2) eX8_goesOn_128 (by decide) ?_
        refine a_iadd eX8_goesOn_129 ?_
        refine a_iconst (v := 1) eX8_goesOn_130 (by decide) ?_
        refine a_aload_n eX8_goesOn_131 rfl ?_
        refine gX8_0 eX8_goesOn_132 fl_X8_7 ?_
        refine a_bipush (v := 42) eX8_goesOn_135 (by decide) ?_
        refine a_iconst (v := 3) eX8_goesOn_137 (by decide) ?_
        refine a_iload_n eX8_goesOn_138 rfl ?_
        refine a_imul eX8_goesOn_139 ?_
        refine a_iadd eX8_goesOn_140 ?_
        refine a_iconst (v := 2) eX8_goesOn_141 (by decide) ?_
        refine a_iadd eX8_goesOn_142 ?_
        obtain ⟨h8, hv⟩ := hv
        refine a_iald eX8_goesOn_143 sA101 kA101 h8 ?_
        refine a_isub eX8_goesOn_144 ?_
        obtain ⟨h9, hv⟩ := hv
        refine a_iast eX8_goesOn_145 sA101 kA101 h9 ?_
        refine a_nm (fun M10 eM10 => ?_)
        replace hv := hv M10 eM10
        refine a_aload_n eX8_goesOn_146 rfl ?_
        refine gX8_0 eX8_goesOn_147 fl_X8_7 ?_
        refine a_iconst (v := 2) eX8_goesOn_150 (by decide) ?_
        refine a_dup2 eX8_goesOn_151 rfl rfl ?_
        refine a_ialdc 2 eX8_goesOn_152 sA101 kA101 (by decide) (by decide) ?_
        refine a_iconst (v := 1) eX8_goesOn_153 (by decide) ?_
        refine a_iadd eX8_goesOn_154 ?_
        refine a_iastc 2 eX8_goesOn_155 sA101 kA101 (by decide) (by decide) ?_
        exact a_vret eX8_goesOn_156 rfl hv
  · replace hv := hv.2 w1
    refine a_aload_n eX8_goesOn_70 rfl ?_
    refine a_iload_n eX8_goesOn_71 rfl ?_
    exact qX8_190 rfl eX8_goesOn_72 (Nat.le_of_ble_eq_true rfl) (tr_V [true, true] rfl rfl hv)
theorem bX8_goesOn_75 {l : Launch} {G : GT} {d : Nat} {M : Mem} {R : Option Value → Mem → Prop} {v1 : Int32} (hv : At l G (d + 4) mX8_goesOn 60 [some (.ref (G.1 100)), some (.int (v1 + 1))] [] M R) : At l G (d + 4) mX8_goesOn 75 [some (.ref (G.1 100)), some (.int v1)] [] M R := by
  refine a_iinc (v := 1) (vs' := [some (.ref (G.1 100)), some (.int (v1 + 1))]) eX8_goesOn_75 rfl rfl (by decide) rfl ?_
  refine a_goto (tgt := 60) eX8_goesOn_78 (by decide) ?_
  exact a_weak [true, true] rfl rfl hv
theorem tX8_goesOnMany {l : Launch} {G : GT} {d : Nat} {M : Mem} {R : Option Value → Mem → Prop} {v1 : Int32} (hv : At l G (d + 4) mX8_goesOnMany 2 [some (.ref (G.1 100)), some (.int v1), some (.int 0)] [] M R) : Tr l G (d + 4) mX8_goesOnMany [.ref (G.1 100), .int v1] M R := by
  refine Tr.of rfl (Nat.le_of_ble_eq_true rfl) (vs := [some (.ref (G.1 100)), some (.int v1), none]) rfl ?_
  refine a_iconst (v := 0) eX8_goesOnMany_0 (by decide) ?_
  refine a_istore_n (vs' := [some (.ref (G.1 100)), some (.int v1), some (.int 0)]) eX8_goesOnMany_1 rfl (Nat.le_of_ble_eq_true rfl) rfl ?_
  exact a_weak [true, true, true] rfl rfl hv
theorem bX8_goesOnMany_2 {l : Launch} {G : GT} {d : Nat} {M : Mem} {R : Option Value → Mem → Prop} {v1 : Int32} {v2 : Int32} (hv : (v1 ≤ v2 → R none M) ∧ (¬ (v1 ≤ v2) → Tr l G (d + 3) mX8_goesOn [.ref (G.1 100)] M (kV fun M' => At l G (d + 4) mX8_goesOnMany 11 [some (.ref (G.1 100)), some (.int v1), some (.int v2)] [] M' R))) : At l G (d + 4) mX8_goesOnMany 2 [some (.ref (G.1 100)), some (.int v1), some (.int v2)] [] M R := by
  refine a_iload_n eX8_goesOnMany_2 rfl ?_
  refine a_iload_n eX8_goesOnMany_3 rfl ?_
  refine a_icmp_ge (tgt := 17) eX8_goesOnMany_4 (by decide) (fun w1 => ?_) (fun w1 => ?_)
  · replace hv := hv.1 w1
    exact a_vret eX8_goesOnMany_17 rfl hv
  · replace hv := hv.2 w1
    refine a_aload_n eX8_goesOnMany_7 rfl ?_
    exact qX8_194 rfl eX8_goesOnMany_8 (Nat.le_of_ble_eq_true rfl) (tr_V [true, true, true] rfl rfl hv)
theorem bX8_goesOnMany_11 {l : Launch} {G : GT} {d : Nat} {M : Mem} {R : Option Value → Mem → Prop} {v1 : Int32} {v2 : Int32} (hv : At l G (d + 4) mX8_goesOnMany 2 [some (.ref (G.1 100)), some (.int v1), some (.int (v2 + 1))] [] M R) : At l G (d + 4) mX8_goesOnMany 11 [some (.ref (G.1 100)), some (.int v1), some (.int v2)] [] M R := by
  refine a_iinc (v := 1) (vs' := [some (.ref (G.1 100)), some (.int v1), some (.int (v2 + 1))]) eX8_goesOnMany_11 rfl rfl (by decide) rfl ?_
  refine a_goto (tgt := 2) eX8_goesOnMany_14 (by decide) ?_
  exact a_weak [true, true, true] rfl rfl hv
theorem tX8_days {l : Launch} {G : GT} {d : Nat} {M : Mem} {R : Option Value → Mem → Prop} {v1 : Int32} (hv : (1 ≤ v1 → (v1 ≤ 100 → ((9999 - (M 101 2)) ≤ v1 → Tr l G (d + 3) mX8_goesOnMany [.ref (G.1 100), .int (9999 - (M 101 2))] M (kV fun M' => At l G (d + 4) mX8_days 48 [some (.ref (G.1 100)), none, some (.int (M 101 6)), none] [] M' R)) ∧ (¬ ((9999 - (M 101 2)) ≤ v1) → Tr l G (d + 3) mX8_goesOnMany [.ref (G.1 100), .int v1] M (kV fun M' => At l G (d + 4) mX8_days 48 [some (.ref (G.1 100)), none, some (.int (M 101 6)), none] [] M' R))) ∧ (¬ (v1 ≤ 100) → R (some (.int (-1000000001))) M)) ∧ (¬ (1 ≤ v1) → R (some (.int (-1000000001))) M)) : Tr l G (d + 4) mX8_days [.ref (G.1 100), .int v1] M R := by
  refine Tr.of rfl (Nat.le_of_ble_eq_true rfl) (vs := [some (.ref (G.1 100)), some (.int v1), none, none]) rfl ?_
  refine a_iload_n eX8_days_0 rfl ?_
  refine a_i2l eX8_days_1 ?_
  refine a_lconsti 1 eX8_days_2 (by decide) ?_
  refine a_ldc2i 100 eX8_days_3 kl_X8_165 (by decide) ?_
  refine qX8_68 rfl eX8_days_6 (Nat.le_of_ble_eq_true rfl) ?_
  refine in_isIn (v := v1) (lo := 1) (hi := 100) ⟨fun w2 => ⟨fun w3 => ret_i ?_, fun w3 => ret_i ?_⟩, fun w2 => ret_i ?_⟩
  · replace hv := (hv.1 w2).1 w3
    refine a_if_ne (tgt := 15) eX8_days_9 (by decide) (fun _ => ?_) (fun h => absurd h (by decide))
    refine a_aload_n eX8_days_15 rfl ?_
    refine gX8_0 eX8_days_16 fl_X8_7 ?_
    refine a_bipush (v := 6) eX8_days_19 (by decide) ?_
    refine a_ialdc 6 eX8_days_21 sA101 kA101 (by decide) (by decide) ?_
    refine a_istore_n (vs' := [some (.ref (G.1 100)), some (.int v1), some (.int (M 101 6)), none]) eX8_days_22 rfl (Nat.le_of_ble_eq_true rfl) rfl ?_
    refine a_sipush (v := 9999) eX8_days_23 (by decide) ?_
    refine a_aload_n eX8_days_26 rfl ?_
    refine gX8_0 eX8_days_27 fl_X8_7 ?_
    refine a_iconst (v := 2) eX8_days_30 (by decide) ?_
    refine a_ialdc 2 eX8_days_31 sA101 kA101 (by decide) (by decide) ?_
    refine a_isub eX8_days_32 ?_
    refine a_istore_n (vs' := [some (.ref (G.1 100)), some (.int v1), some (.int (M 101 6)), some (.int (9999 - (M 101 2)))]) eX8_days_33 rfl (Nat.le_of_ble_eq_true rfl) rfl ?_
    refine a_aload_n eX8_days_34 rfl ?_
    refine a_iload_n eX8_days_35 rfl ?_
    refine a_iload_n eX8_days_36 rfl ?_
    refine a_icmp_ge (tgt := 44) eX8_days_37 (by decide) (fun w1 => ?_) (fun w1 => ?_)
    · replace hv := hv.1 w1
      refine a_iload_n eX8_days_44 rfl ?_
      exact qX8_197 rfl eX8_days_45 (Nat.le_of_ble_eq_true rfl) (tr_V [true, false, true, false] rfl rfl hv)
    · replace hv := hv.2 w1
      refine a_iload_n eX8_days_40 rfl ?_
      refine a_goto (tgt := 45) eX8_days_41 (by decide) ?_
      exact qX8_197 rfl eX8_days_45 (Nat.le_of_ble_eq_true rfl) (tr_V [true, false, true, false] rfl rfl hv)
  · replace hv := (hv.1 w2).2 w3
    refine a_if_ne (tgt := 15) eX8_days_9 (by decide) (fun h => absurd h (by decide)) (fun _ => ?_)
    refine a_ldc eX8_days_12 kc_X8_117 ?_
    exact a_iret eX8_days_14 rfl rfl hv
  · replace hv := hv.2 w2
    refine a_if_ne (tgt := 15) eX8_days_9 (by decide) (fun h => absurd h (by decide)) (fun _ => ?_)
    refine a_ldc eX8_days_12 kc_X8_117 ?_
    exact a_iret eX8_days_14 rfl rfl hv
theorem bX8_days_48 {l : Launch} {G : GT} {d : Nat} {M : Mem} {R : Option Value → Mem → Prop} {v2 : Int32} (hv : R (some (.int ((M 101 6) - v2))) M) : At l G (d + 4) mX8_days 48 [some (.ref (G.1 100)), none, some (.int v2), none] [] M R := by
  refine a_aload_n eX8_days_48 rfl ?_
  refine gX8_0 eX8_days_49 fl_X8_7 ?_
  refine a_bipush (v := 6) eX8_days_52 (by decide) ?_
  refine a_ialdc 6 eX8_days_54 sA101 kA101 (by decide) (by decide) ?_
  refine a_iload_n eX8_days_55 rfl ?_
  refine a_isub eX8_days_56 ?_
  exact a_iret eX8_days_57 rfl rfl hv
theorem tX8_borne {l : Launch} {G : GT} {d : Nat} {M : Mem} {R : Option Value → Mem → Prop} {v1 : Int32} (hv : At l G (d + 4) mX8_borne 4 [some (.ref (G.1 100)), some (.int v1), some (.int 0), some (.int 0)] [] M R) : Tr l G (d + 4) mX8_borne [.ref (G.1 100), .int v1] M R := by
  refine Tr.of rfl (Nat.le_of_ble_eq_true rfl) (vs := [some (.ref (G.1 100)), some (.int v1), none, none]) rfl ?_
  refine a_iconst (v := 0) eX8_borne_0 (by decide) ?_
  refine a_istore_n (vs' := [some (.ref (G.1 100)), some (.int v1), some (.int 0), none]) eX8_borne_1 rfl (Nat.le_of_ble_eq_true rfl) rfl ?_
  refine a_iconst (v := 0) eX8_borne_2 (by decide) ?_
  refine a_istore_n (vs' := [some (.ref (G.1 100)), some (.int v1), some (.int 0), some (.int 0)]) eX8_borne_3 rfl (Nat.le_of_ble_eq_true rfl) rfl ?_
  exact a_weak [true, true, true, true] rfl rfl hv
theorem bX8_borne_4 {l : Launch} {G : GT} {d : Nat} {M : Mem} {R : Option Value → Mem → Prop} {v1 : Int32} {v2 : Int32} {v3 : Int32} (hv : ((M 101 0) ≤ v3 → R (some (.int v2)) M) ∧ (¬ ((M 101 0) ≤ v3) → (((v1 >>> (v3 &&& 31)) &&& 1) = 1 → vp_in ((10 + (4 * v3)) + 3) 3084 ∧ At l G (d + 4) mX8_borne 4 [some (.ref (G.1 100)), some (.int v1), some (.int (v2 ||| (M 101 (ix ((10 + (4 * v3)) + 3))))), some (.int (v3 + 1))] [] M R) ∧ (¬ (((v1 >>> (v3 &&& 31)) &&& 1) = 1) → At l G (d + 4) mX8_borne 4 [some (.ref (G.1 100)), some (.int v1), some (.int (v2 ||| 0)), some (.int (v3 + 1))] [] M R))) : At l G (d + 4) mX8_borne 4 [some (.ref (G.1 100)), some (.int v1), some (.int v2), some (.int v3)] [] M R := by
  refine a_iload_n eX8_borne_4 rfl ?_
  refine a_aload_n eX8_borne_5 rfl ?_
  refine gX8_0 eX8_borne_6 fl_X8_7 ?_
  refine a_iconst (v := 0) eX8_borne_9 (by decide) ?_
  refine a_ialdc 0 eX8_borne_10 sA101 kA101 (by decide) (by decide) ?_
  refine a_icmp_ge (tgt := 41) eX8_borne_11 (by decide) (fun w1 => ?_) (fun w1 => ?_)
  · replace hv := hv.1 w1
    refine a_iload_n eX8_borne_41 rfl ?_
    exact a_iret eX8_borne_42 rfl rfl hv
  · replace hv := hv.2 w1
    refine a_iload_n eX8_borne_14 rfl ?_
    refine a_iload_n eX8_borne_15 rfl ?_
    refine a_iload_n eX8_borne_16 rfl ?_
    refine qX8_149 rfl eX8_borne_17 (Nat.le_of_ble_eq_true rfl) ?_
    refine Tr.of rfl (Nat.le_of_ble_eq_true rfl) (vs := [some (.int v1), some (.int v3)]) rfl ?_
    refine a_iload_n eX8_isAmong_0 rfl ?_
    refine a_iload_n eX8_isAmong_1 rfl ?_
    refine a_ishr eX8_isAmong_2 ?_
    refine a_iconst (v := 1) eX8_isAmong_3 (by decide) ?_
    refine a_iand eX8_isAmong_4 ?_
    refine a_iconst (v := 1) eX8_isAmong_5 (by decide) ?_
    refine a_icmp_ne (tgt := 13) eX8_isAmong_6 (by decide) (fun w2 => ?_) (fun w2 => ?_)
    · replace hv := hv.2 w2
      refine a_iconst (v := 0) eX8_isAmong_13 (by decide) ?_
      refine a_iret eX8_isAmong_14 rfl rfl (ret_i ?_)
      refine a_if_eq (tgt := 32) eX8_borne_20 (by decide) (fun _ => ?_) (fun h => absurd h (by decide))
      refine a_iconst (v := 0) eX8_borne_32 (by decide) ?_
      refine a_ior eX8_borne_33 ?_
      refine a_istore_n (vs' := [some (.ref (G.1 100)), some (.int v1), some (.int (v2 ||| 0)), some (.int v3)]) eX8_borne_34 rfl (Nat.le_of_ble_eq_true rfl) rfl ?_
      refine a_iinc (v := 1) (vs' := [some (.ref (G.1 100)), some (.int v1), some (.int (v2 ||| 0)), some (.int (v3 + 1))]) eX8_borne_35 rfl rfl (by decide) rfl ?_
      refine a_goto (tgt := 4) eX8_borne_38 (by decide) ?_
      exact a_weak [true, true, true, true] rfl rfl hv
    · replace hv := hv.1 w2
      refine a_iconst (v := 1) eX8_isAmong_9 (by decide) ?_
      refine a_goto (tgt := 14) eX8_isAmong_10 (by decide) ?_
      refine a_iret eX8_isAmong_14 rfl rfl (ret_i ?_)
      refine a_if_eq (tgt := 32) eX8_borne_20 (by decide) (fun h => absurd h (by decide)) (fun _ => ?_)
      refine a_aload_n eX8_borne_23 rfl ?_
      refine a_iload_n eX8_borne_24 rfl ?_
      refine a_iconst (v := 3) eX8_borne_25 (by decide) ?_
      refine qX8_86 rfl eX8_borne_26 (Nat.le_of_ble_eq_true rfl) ?_
      refine Tr.of rfl (Nat.le_of_ble_eq_true rfl) (vs := [some (.ref (G.1 100)), some (.int v3), some (.int 3)]) rfl ?_
      refine a_aload_n eX8_of_0 rfl ?_
      refine gX8_0 eX8_of_1 fl_X8_7 ?_
      refine a_bipush (v := 10) eX8_of_4 (by decide) ?_
      refine a_iconst (v := 4) eX8_of_6 (by decide) ?_
      refine a_iload_n eX8_of_7 rfl ?_
      refine a_imul eX8_of_8 ?_
      refine a_iadd eX8_of_9 ?_
      refine a_iload_n eX8_of_10 rfl ?_
      refine a_iadd eX8_of_11 ?_
      obtain ⟨h3, hv⟩ := hv
      refine a_iald eX8_of_12 sA101 kA101 h3 ?_
      refine a_iret eX8_of_13 rfl rfl (ret_i ?_)
      refine a_goto (tgt := 33) eX8_borne_29 (by decide) ?_
      refine a_ior eX8_borne_33 ?_
      refine a_istore_n (vs' := [some (.ref (G.1 100)), some (.int v1), some (.int (v2 ||| (M 101 (ix ((10 + (4 * v3)) + 3))))), some (.int v3)]) eX8_borne_34 rfl (Nat.le_of_ble_eq_true rfl) rfl ?_
      refine a_iinc (v := 1) (vs' := [some (.ref (G.1 100)), some (.int v1), some (.int (v2 ||| (M 101 (ix ((10 + (4 * v3)) + 3))))), some (.int (v3 + 1))]) eX8_borne_35 rfl rfl (by decide) rfl ?_
      refine a_goto (tgt := 4) eX8_borne_38 (by decide) ?_
      exact a_weak [true, true, true, true] rfl rfl hv
theorem tX8_known {l : Launch} {G : GT} {d : Nat} {M : Mem} {R : Option Value → Mem → Prop}  (hv : Tr l G (d + 3) mX8_borne [.ref (G.1 100), .int (((1 : Int32) <<< ((M 101 0) &&& 31)) - 1)] M (kI fun q M' => At l G (d + 4) mX8_known 8 [none] [.int q] M' R)) : Tr l G (d + 4) mX8_known [.ref (G.1 100)] M R := by
  refine Tr.of rfl (Nat.le_of_ble_eq_true rfl) (vs := [some (.ref (G.1 100))]) rfl ?_
  refine a_aload_n eX8_known_0 rfl ?_
  refine a_aload_n eX8_known_1 rfl ?_
  refine qX8_200 rfl eX8_known_2 (Nat.le_of_ble_eq_true rfl) ?_
  refine Tr.of rfl (Nat.le_of_ble_eq_true rfl) (vs := [some (.ref (G.1 100))]) rfl ?_
  refine a_iconst (v := 1) eX8_everybody_0 (by decide) ?_
  refine a_aload_n eX8_everybody_1 rfl ?_
  refine gX8_0 eX8_everybody_2 fl_X8_7 ?_
  refine a_iconst (v := 0) eX8_everybody_5 (by decide) ?_
  refine a_ialdc 0 eX8_everybody_6 sA101 kA101 (by decide) (by decide) ?_
  refine a_ishl eX8_everybody_7 ?_
  refine a_iconst (v := 1) eX8_everybody_8 (by decide) ?_
  refine a_isub eX8_everybody_9 ?_
  refine a_iret eX8_everybody_10 rfl rfl (ret_i ?_)
  exact qX8_203 rfl eX8_known_5 (Nat.le_of_ble_eq_true rfl) (tr_I [false] rfl rfl hv)
theorem bX8_known_8 {l : Launch} {G : GT} {d : Nat} {M : Mem} {R : Option Value → Mem → Prop} {r : Int32} (hv : Tr l G (d + 3) mX8_bits [.int r] M (kI fun q M' => At l G (d + 4) mX8_known 11 [none] [.int q] M' R)) : At l G (d + 4) mX8_known 8 [none] [.int r] M R := by
  exact qX8_102 rfl eX8_known_8 (Nat.le_of_ble_eq_true rfl) (tr_I [false] rfl rfl hv)
theorem bX8_known_11 {l : Launch} {G : GT} {d : Nat} {M : Mem} {R : Option Value → Mem → Prop} {r : Int32} (hv : R (some (.int r)) M) : At l G (d + 4) mX8_known 11 [none] [.int r] M R := by
  exact a_iret eX8_known_11 rfl rfl hv
theorem tX8_land {l : Launch} {G : GT} {d : Nat} {M : Mem} {R : Option Value → Mem → Prop} {v1 : Int32} (hv : (0 ≤ v1 → (v1 ≤ 5 → (3 ≤ v1 → At l G (d + 4) mX8_land 34 [some (.ref (G.1 100)), some (.int v1), some (.int 0), some (.int 0)] [] M R) ∧ (¬ (3 ≤ v1) → vp_in (6 + v1) 3084 ∧ R (some (.int (M 101 (ix (6 + v1))))) M)) ∧ (¬ (v1 ≤ 5) → R (some (.int (-1000000001))) M)) ∧ (¬ (0 ≤ v1) → R (some (.int (-1000000001))) M)) : Tr l G (d + 4) mX8_land [.ref (G.1 100), .int v1] M R := by
  refine Tr.of rfl (Nat.le_of_ble_eq_true rfl) (vs := [some (.ref (G.1 100)), some (.int v1), none, none]) rfl ?_
  refine a_iload_n eX8_land_0 rfl ?_
  refine a_i2l eX8_land_1 ?_
  refine a_lconsti 0 eX8_land_2 (by decide) ?_
  refine a_ldc2i 5 eX8_land_3 kl_X8_109 (by decide) ?_
  refine qX8_68 rfl eX8_land_6 (Nat.le_of_ble_eq_true rfl) ?_
  refine in_isIn (v := v1) (lo := 0) (hi := 5) ⟨fun w3 => ⟨fun w4 => ret_i ?_, fun w4 => ret_i ?_⟩, fun w3 => ret_i ?_⟩
  · replace hv := (hv.1 w3).1 w4
    refine a_if_ne (tgt := 15) eX8_land_9 (by decide) (fun _ => ?_) (fun h => absurd h (by decide))
    refine a_iload_n eX8_land_15 rfl ?_
    refine a_iconst (v := 3) eX8_land_16 (by decide) ?_
    refine a_icmp_ge (tgt := 30) eX8_land_17 (by decide) (fun w1 => ?_) (fun w1 => ?_)
    · replace hv := hv.1 w1
      refine a_iconst (v := 0) eX8_land_30 (by decide) ?_
      refine a_istore_n (vs' := [some (.ref (G.1 100)), some (.int v1), some (.int 0), none]) eX8_land_31 rfl (Nat.le_of_ble_eq_true rfl) rfl ?_
      refine a_iconst (v := 0) eX8_land_32 (by decide) ?_
      refine a_istore_n (vs' := [some (.ref (G.1 100)), some (.int v1), some (.int 0), some (.int 0)]) eX8_land_33 rfl (Nat.le_of_ble_eq_true rfl) rfl ?_
      exact a_weak [true, true, true, true] rfl rfl hv
    · replace hv := hv.2 w1
      refine a_aload_n eX8_land_20 rfl ?_
      refine gX8_0 eX8_land_21 fl_X8_7 ?_
      refine a_bipush (v := 6) eX8_land_24 (by decide) ?_
      refine a_iload_n eX8_land_26 rfl ?_
      refine a_iadd eX8_land_27 ?_
      obtain ⟨h2, hv⟩ := hv
      refine a_iald eX8_land_28 sA101 kA101 h2 ?_
      exact a_iret eX8_land_29 rfl rfl hv
  · replace hv := (hv.1 w3).2 w4
    refine a_if_ne (tgt := 15) eX8_land_9 (by decide) (fun h => absurd h (by decide)) (fun _ => ?_)
    refine a_ldc eX8_land_12 kc_X8_117 ?_
    exact a_iret eX8_land_14 rfl rfl hv
  · replace hv := hv.2 w3
    refine a_if_ne (tgt := 15) eX8_land_9 (by decide) (fun h => absurd h (by decide)) (fun _ => ?_)
    refine a_ldc eX8_land_12 kc_X8_117 ?_
    exact a_iret eX8_land_14 rfl rfl hv
theorem bX8_land_34 {l : Launch} {G : GT} {d : Nat} {M : Mem} {R : Option Value → Mem → Prop} {v1 : Int32} {v2 : Int32} {v3 : Int32} (hv : ((M 101 3) ≤ v3 → (v1 = 3 → Tr l G (d + 3) mX8_known [.ref (G.1 100)] M (kI fun q M' => At l G (d + 4) mX8_land 77 [none, none, none, none] [.int q] M' R)) ∧ (¬ (v1 = 3) → (v1 = 4 → R (some (.int v2)) M) ∧ (¬ (v1 = 4) → Tr l G (d + 3) mX8_borne [.ref (G.1 100), .int (((1 : Int32) <<< ((M 101 0) &&& 31)) - 1)] M (kI fun q M' => At l G (d + 4) mX8_land 107 [none, none, none, none] [.int q, .int (((1 : Int32) <<< ((M 101 3) &&& 31)) - 1)] M' R)))) ∧ (¬ ((M 101 3) ≤ v3) → vp_in ((42 + (3 * v3)) + 2) 3084 ∧ ((M 101 (ix ((42 + (3 * v3)) + 2))) = 1 → At l G (d + 4) mX8_land 34 [some (.ref (G.1 100)), some (.int v1), some (.int (v2 ||| ((1 : Int32) <<< (v3 &&& 31)))), some (.int (v3 + 1))] [] M R) ∧ (¬ ((M 101 (ix ((42 + (3 * v3)) + 2))) = 1) → At l G (d + 4) mX8_land 34 [some (.ref (G.1 100)), some (.int v1), some (.int (v2 ||| 0)), some (.int (v3 + 1))] [] M R))) : At l G (d + 4) mX8_land 34 [some (.ref (G.1 100)), some (.int v1), some (.int v2), some (.int v3)] [] M R := by
  refine a_iload_n eX8_land_34 rfl ?_
  refine a_aload_n eX8_land_35 rfl ?_
  refine gX8_0 eX8_land_36 fl_X8_7 ?_
  refine a_iconst (v := 3) eX8_land_39 (by decide) ?_
  refine a_ialdc 3 eX8_land_40 sA101 kA101 (by decide) (by decide) ?_
  refine a_icmp_ge (tgt := 68) eX8_land_41 (by decide) (fun w1 => ?_) (fun w1 => ?_)
  · replace hv := hv.1 w1
    refine a_iload_n eX8_land_68 rfl ?_
    refine a_iconst (v := 3) eX8_land_69 (by decide) ?_
    refine a_icmp_ne (tgt := 80) eX8_land_70 (by decide) (fun w2 => ?_) (fun w2 => ?_)
    · replace hv := hv.2 w2
      refine a_iload_n eX8_land_80 rfl ?_
      refine a_iconst (v := 4) eX8_land_81 (by decide) ?_
      refine a_icmp_ne (tgt := 89) eX8_land_82 (by decide) (fun w3 => ?_) (fun w3 => ?_)
      · replace hv := hv.2 w3
        refine a_iconst (v := 1) eX8_land_89 (by decide) ?_
        refine a_aload_n eX8_land_90 rfl ?_
        refine gX8_0 eX8_land_91 fl_X8_7 ?_
        refine a_iconst (v := 3) eX8_land_94 (by decide) ?_
        refine a_ialdc 3 eX8_land_95 sA101 kA101 (by decide) (by decide) ?_
        refine a_ishl eX8_land_96 ?_
        refine a_iconst (v := 1) eX8_land_97 (by decide) ?_
        refine a_isub eX8_land_98 ?_
        refine a_aload_n eX8_land_99 rfl ?_
        refine a_aload_n eX8_land_100 rfl ?_
        refine qX8_200 rfl eX8_land_101 (Nat.le_of_ble_eq_true rfl) ?_
        refine Tr.of rfl (Nat.le_of_ble_eq_true rfl) (vs := [some (.ref (G.1 100))]) rfl ?_
        refine a_iconst (v := 1) eX8_everybody_0 (by decide) ?_
        refine a_aload_n eX8_everybody_1 rfl ?_
        refine gX8_0 eX8_everybody_2 fl_X8_7 ?_
        refine a_iconst (v := 0) eX8_everybody_5 (by decide) ?_
        refine a_ialdc 0 eX8_everybody_6 sA101 kA101 (by decide) (by decide) ?_
        refine a_ishl eX8_everybody_7 ?_
        refine a_iconst (v := 1) eX8_everybody_8 (by decide) ?_
        refine a_isub eX8_everybody_9 ?_
        refine a_iret eX8_everybody_10 rfl rfl (ret_i ?_)
        exact qX8_203 rfl eX8_land_104 (Nat.le_of_ble_eq_true rfl) (tr_I [false, false, false, false] rfl rfl hv)
      · replace hv := hv.1 w3
        refine a_iload_n eX8_land_85 rfl ?_
        refine a_goto (tgt := 110) eX8_land_86 (by decide) ?_
        exact a_iret eX8_land_110 rfl rfl hv
    · replace hv := hv.1 w2
      refine a_aload_n eX8_land_73 rfl ?_
      exact qX8_206 rfl eX8_land_74 (Nat.le_of_ble_eq_true rfl) (tr_I [false, false, false, false] rfl rfl hv)
  · replace hv := hv.2 w1
    refine a_iload_n eX8_land_44 rfl ?_
    refine a_aload_n eX8_land_45 rfl ?_
    refine a_iload_n eX8_land_46 rfl ?_
    refine qX8_159 rfl eX8_land_47 (Nat.le_of_ble_eq_true rfl) ?_
    refine Tr.of rfl (Nat.le_of_ble_eq_true rfl) (vs := [some (.ref (G.1 100)), some (.int v3)]) rfl ?_
    refine a_aload_n eX8_stands_0 rfl ?_
    refine gX8_0 eX8_stands_1 fl_X8_7 ?_
    refine a_bipush (v := 42) eX8_stands_4 (by decide) ?_
    refine a_iconst (v := 3) eX8_stands_6 (by decide) ?_
    refine a_iload_n eX8_stands_7 rfl ?_
    refine a_imul eX8_stands_8 ?_
    refine a_iadd eX8_stands_9 ?_
    refine a_iconst (v := 2) eX8_stands_10 (by decide) ?_
    refine a_iadd eX8_stands_11 ?_
    obtain ⟨h4, hv⟩ := hv
    refine a_iald eX8_stands_12 sA101 kA101 h4 ?_
    refine a_iconst (v := 1) eX8_stands_13 (by decide) ?_
    refine a_icmp_ne (tgt := 21) eX8_stands_14 (by decide) (fun w5 => ?_) (fun w5 => ?_)
    · replace hv := hv.2 w5
      refine a_iconst (v := 0) eX8_stands_21 (by decide) ?_
      refine a_iret eX8_stands_22 rfl rfl (ret_i ?_)
      refine a_if_eq (tgt := 59) eX8_land_50 (by decide) (fun _ => ?_) (fun h => absurd h (by decide))
      refine a_iconst (v := 0) eX8_land_59 (by decide) ?_
      refine a_ior eX8_land_60 ?_
      refine a_istore_n (vs' := [some (.ref (G.1 100)), some (.int v1), some (.int (v2 ||| 0)), some (.int v3)]) eX8_land_61 rfl (Nat.le_of_ble_eq_true rfl) rfl ?_
      refine a_iinc (v := 1) (vs' := [some (.ref (G.1 100)), some (.int v1), some (.int (v2 ||| 0)), some (.int (v3 + 1))]) eX8_land_62 rfl rfl (by decide) rfl ?_
      refine a_goto (tgt := 34) eX8_land_65 (by decide) ?_
      exact a_weak [true, true, true, true] rfl rfl hv
    · replace hv := hv.1 w5
      refine a_iconst (v := 1) eX8_stands_17 (by decide) ?_
      refine a_goto (tgt := 22) eX8_stands_18 (by decide) ?_
      refine a_iret eX8_stands_22 rfl rfl (ret_i ?_)
      refine a_if_eq (tgt := 59) eX8_land_50 (by decide) (fun h => absurd h (by decide)) (fun _ => ?_)
      refine a_iconst (v := 1) eX8_land_53 (by decide) ?_
      refine a_iload_n eX8_land_54 rfl ?_
      refine a_ishl eX8_land_55 ?_
      refine a_goto (tgt := 60) eX8_land_56 (by decide) ?_
      refine a_ior eX8_land_60 ?_
      refine a_istore_n (vs' := [some (.ref (G.1 100)), some (.int v1), some (.int (v2 ||| ((1 : Int32) <<< (v3 &&& 31)))), some (.int v3)]) eX8_land_61 rfl (Nat.le_of_ble_eq_true rfl) rfl ?_
      refine a_iinc (v := 1) (vs' := [some (.ref (G.1 100)), some (.int v1), some (.int (v2 ||| ((1 : Int32) <<< (v3 &&& 31)))), some (.int (v3 + 1))]) eX8_land_62 rfl rfl (by decide) rfl ?_
      refine a_goto (tgt := 34) eX8_land_65 (by decide) ?_
      exact a_weak [true, true, true, true] rfl rfl hv
theorem bX8_land_77 {l : Launch} {G : GT} {d : Nat} {M : Mem} {R : Option Value → Mem → Prop} {r : Int32} (hv : R (some (.int r)) M) : At l G (d + 4) mX8_land 77 [none, none, none, none] [.int r] M R := by
  refine a_goto (tgt := 110) eX8_land_77 (by decide) ?_
  exact a_iret eX8_land_110 rfl rfl hv
theorem bX8_land_107 {l : Launch} {G : GT} {d : Nat} {M : Mem} {R : Option Value → Mem → Prop} {r : Int32} {t1 : Int32} (hv : R (some (.int (t1 &&& (r ^^^ (-1))))) M) : At l G (d + 4) mX8_land 107 [none, none, none, none] [.int r, .int t1] M R := by
  refine a_iconst (v := (-1)) eX8_land_107 (by decide) ?_
  refine a_ixor eX8_land_108 ?_
  refine a_iand eX8_land_109 ?_
  exact a_iret eX8_land_110 rfl rfl hv
theorem tX8_findsWays {l : Launch} {G : GT} {d : Nat} {M : Mem} {R : Option Value → Mem → Prop} {v1 : Int32} {v2 : Int32} (hv : At l G (d + 4) mX8_findsWays 2 [some (.ref (G.1 100)), some (.int v1), some (.int v2), some (.int 0), none] [] M R) : Tr l G (d + 4) mX8_findsWays [.ref (G.1 100), .int v1, .int v2] M R := by
  refine Tr.of rfl (Nat.le_of_ble_eq_true rfl) (vs := [some (.ref (G.1 100)), some (.int v1), some (.int v2), none, none]) rfl ?_
  refine a_iconst (v := 0) eX8_findsWays_0 (by decide) ?_
  refine a_istore_n (vs' := [some (.ref (G.1 100)), some (.int v1), some (.int v2), some (.int 0), none]) eX8_findsWays_1 rfl (Nat.le_of_ble_eq_true rfl) rfl ?_
  exact a_weak [true, true, true, true, false] rfl rfl hv
theorem bX8_findsWays_2 {l : Launch} {G : GT} {d : Nat} {M : Mem} {R : Option Value → Mem → Prop} {v1 : Int32} {v2 : Int32} {v3 : Int32} (hv : (10 ≤ v3 → At l G (d + 4) mX8_findsWays 32 [some (.ref (G.1 100)), some (.int v1), none, some (.int 0), none] [] M R) ∧ (¬ (10 ≤ v3) → (v3 = v2 → vp_in v3 10 ∧ At l G (d + 4) mX8_findsWays 2 [some (.ref (G.1 100)), some (.int v1), some (.int v2), some (.int (v3 + 1)), none] [] (um M 112 (ix v3) 0) R) ∧ (¬ (v3 = v2) → vp_in v3 10 ∧ At l G (d + 4) mX8_findsWays 2 [some (.ref (G.1 100)), some (.int v1), some (.int v2), some (.int (v3 + 1)), none] [] (um M 112 (ix v3) (-1)) R))) : At l G (d + 4) mX8_findsWays 2 [some (.ref (G.1 100)), some (.int v1), some (.int v2), some (.int v3), none] [] M R := by
  refine a_iload_n eX8_findsWays_2 rfl ?_
  refine a_bipush (v := 10) eX8_findsWays_3 (by decide) ?_
  refine a_icmp_ge (tgt := 30) eX8_findsWays_5 (by decide) (fun w1 => ?_) (fun w1 => ?_)
  · replace hv := hv.1 w1
    refine a_iconst (v := 0) eX8_findsWays_30 (by decide) ?_
    refine a_istore_n (vs' := [some (.ref (G.1 100)), some (.int v1), some (.int v2), some (.int 0), none]) eX8_findsWays_31 rfl (Nat.le_of_ble_eq_true rfl) rfl ?_
    exact a_weak [true, true, false, true, false] rfl rfl hv
  · replace hv := hv.2 w1
    refine a_aload_n eX8_findsWays_8 rfl ?_
    refine gX8_12 eX8_findsWays_9 fl_X8_43 ?_
    refine a_iload_n eX8_findsWays_12 rfl ?_
    refine a_iload_n eX8_findsWays_13 rfl ?_
    refine a_iload_n eX8_findsWays_14 rfl ?_
    refine a_icmp_ne (tgt := 22) eX8_findsWays_15 (by decide) (fun w2 => ?_) (fun w2 => ?_)
    · replace hv := hv.2 w2
      refine a_iconst (v := (-1)) eX8_findsWays_22 (by decide) ?_
      obtain ⟨h3, hv⟩ := hv
      refine a_iast eX8_findsWays_23 sA112 kA112 h3 ?_
      refine a_iinc (v := 1) (vs' := [some (.ref (G.1 100)), some (.int v1), some (.int v2), some (.int (v3 + 1)), none]) eX8_findsWays_24 rfl rfl (by decide) rfl ?_
      refine a_goto (tgt := 2) eX8_findsWays_27 (by decide) ?_
      exact a_weak [true, true, true, true, false] rfl rfl hv
    · replace hv := hv.1 w2
      refine a_iconst (v := 0) eX8_findsWays_18 (by decide) ?_
      refine a_goto (tgt := 23) eX8_findsWays_19 (by decide) ?_
      obtain ⟨h4, hv⟩ := hv
      refine a_iast eX8_findsWays_23 sA112 kA112 h4 ?_
      refine a_iinc (v := 1) (vs' := [some (.ref (G.1 100)), some (.int v1), some (.int v2), some (.int (v3 + 1)), none]) eX8_findsWays_24 rfl rfl (by decide) rfl ?_
      refine a_goto (tgt := 2) eX8_findsWays_27 (by decide) ?_
      exact a_weak [true, true, true, true, false] rfl rfl hv
theorem bX8_findsWays_32 {l : Launch} {G : GT} {d : Nat} {M : Mem} {R : Option Value → Mem → Prop} {v1 : Int32} {v3 : Int32} (hv : (10 ≤ v3 → R none M) ∧ (¬ (10 ≤ v3) → At l G (d + 4) mX8_findsWays 41 [some (.ref (G.1 100)), some (.int v1), none, some (.int v3), some (.int 0)] [] M R)) : At l G (d + 4) mX8_findsWays 32 [some (.ref (G.1 100)), some (.int v1), none, some (.int v3), none] [] M R := by
  refine a_iload_n eX8_findsWays_32 rfl ?_
  refine a_bipush (v := 10) eX8_findsWays_33 (by decide) ?_
  refine a_icmp_ge (tgt := 92) eX8_findsWays_35 (by decide) (fun w1 => ?_) (fun w1 => ?_)
  · replace hv := hv.1 w1
    exact a_vret eX8_findsWays_92 rfl hv
  · replace hv := hv.2 w1
    refine a_iconst (v := 0) eX8_findsWays_38 (by decide) ?_
    refine a_istore (vs' := [some (.ref (G.1 100)), some (.int v1), none, some (.int v3), some (.int 0)]) eX8_findsWays_39 rfl (Nat.le_of_ble_eq_true rfl) rfl ?_
    exact a_weak [true, true, false, true, true] rfl rfl hv
theorem bX8_findsWays_41 {l : Launch} {G : GT} {d : Nat} {M : Mem} {R : Option Value → Mem → Prop} {v1 : Int32} {v3 : Int32} {v4 : Int32} (hv : ((M 101 3) ≤ v4 → At l G (d + 4) mX8_findsWays 32 [some (.ref (G.1 100)), some (.int v1), none, some (.int (v3 + 1)), none] [] M R) ∧ (¬ ((M 101 3) ≤ v4) → vp_in (42 + (3 * v4)) 3084 ∧ Tr l G (d + 3) mX8_goesBy [.ref (G.1 100), .int v1, .int v4, .int (M 101 (ix (42 + (3 * v4)))), .int v3] M (kV fun M' => At l G (d + 4) mX8_findsWays 66 [some (.ref (G.1 100)), some (.int v1), none, some (.int v3), some (.int v4)] [] M' R))) : At l G (d + 4) mX8_findsWays 41 [some (.ref (G.1 100)), some (.int v1), none, some (.int v3), some (.int v4)] [] M R := by
  refine a_iload eX8_findsWays_41 rfl ?_
  refine a_aload_n eX8_findsWays_43 rfl ?_
  refine gX8_0 eX8_findsWays_44 fl_X8_7 ?_
  refine a_iconst (v := 3) eX8_findsWays_47 (by decide) ?_
  refine a_ialdc 3 eX8_findsWays_48 sA101 kA101 (by decide) (by decide) ?_
  refine a_icmp_ge (tgt := 86) eX8_findsWays_49 (by decide) (fun w1 => ?_) (fun w1 => ?_)
  · replace hv := hv.1 w1
    refine a_iinc (v := 1) (vs' := [some (.ref (G.1 100)), some (.int v1), none, some (.int (v3 + 1)), some (.int v4)]) eX8_findsWays_86 rfl rfl (by decide) rfl ?_
    refine a_goto (tgt := 32) eX8_findsWays_89 (by decide) ?_
    exact a_weak [true, true, false, true, false] rfl rfl hv
  · replace hv := hv.2 w1
    refine a_aload_n eX8_findsWays_52 rfl ?_
    refine a_iload_n eX8_findsWays_53 rfl ?_
    refine a_iload eX8_findsWays_54 rfl ?_
    refine a_aload_n eX8_findsWays_56 rfl ?_
    refine a_iload eX8_findsWays_57 rfl ?_
    refine qX8_75 rfl eX8_findsWays_59 (Nat.le_of_ble_eq_true rfl) ?_
    refine Tr.of rfl (Nat.le_of_ble_eq_true rfl) (vs := [some (.ref (G.1 100)), some (.int v4)]) rfl ?_
    refine a_aload_n eX8_from_0 rfl ?_
    refine gX8_0 eX8_from_1 fl_X8_7 ?_
    refine a_bipush (v := 42) eX8_from_4 (by decide) ?_
    refine a_iconst (v := 3) eX8_from_6 (by decide) ?_
    refine a_iload_n eX8_from_7 rfl ?_
    refine a_imul eX8_from_8 ?_
    refine a_iadd eX8_from_9 ?_
    obtain ⟨h2, hv⟩ := hv
    refine a_iald eX8_from_10 sA101 kA101 h2 ?_
    refine a_iret eX8_from_11 rfl rfl (ret_i ?_)
    refine a_iload_n eX8_findsWays_62 rfl ?_
    exact qX8_209 rfl eX8_findsWays_63 (Nat.le_of_ble_eq_true rfl) (tr_V [true, true, false, true, true] rfl rfl hv)
theorem bX8_findsWays_66 {l : Launch} {G : GT} {d : Nat} {M : Mem} {R : Option Value → Mem → Prop} {v1 : Int32} {v3 : Int32} {v4 : Int32} (hv : vp_in ((42 + (3 * v4)) + 1) 3084 ∧ Tr l G (d + 3) mX8_goesBy [.ref (G.1 100), .int v1, .int v4, .int (M 101 (ix ((42 + (3 * v4)) + 1))), .int v3] M (kV fun M' => At l G (d + 4) mX8_findsWays 80 [some (.ref (G.1 100)), some (.int v1), none, some (.int v3), some (.int v4)] [] M' R)) : At l G (d + 4) mX8_findsWays 66 [some (.ref (G.1 100)), some (.int v1), none, some (.int v3), some (.int v4)] [] M R := by
  refine a_aload_n eX8_findsWays_66 rfl ?_
  refine a_iload_n eX8_findsWays_67 rfl ?_
  refine a_iload eX8_findsWays_68 rfl ?_
  refine a_aload_n eX8_findsWays_70 rfl ?_
  refine a_iload eX8_findsWays_71 rfl ?_
  refine qX8_79 rfl eX8_findsWays_73 (Nat.le_of_ble_eq_true rfl) ?_
  refine Tr.of rfl (Nat.le_of_ble_eq_true rfl) (vs := [some (.ref (G.1 100)), some (.int v4)]) rfl ?_
  refine a_aload_n eX8_to_0 rfl ?_
  refine gX8_0 eX8_to_1 fl_X8_7 ?_
  refine a_bipush (v := 42) eX8_to_4 (by decide) ?_
  refine a_iconst (v := 3) eX8_to_6 (by decide) ?_
  refine a_iload_n eX8_to_7 rfl ?_
  refine a_imul eX8_to_8 ?_
  refine a_iadd eX8_to_9 ?_
  refine a_iconst (v := 1) eX8_to_10 (by decide) ?_
  refine a_iadd eX8_to_11 ?_
  obtain ⟨h1, hv⟩ := hv
  refine a_iald eX8_to_12 sA101 kA101 h1 ?_
  refine a_iret eX8_to_13 rfl rfl (ret_i ?_)
  refine a_iload_n eX8_findsWays_76 rfl ?_
  exact qX8_209 rfl eX8_findsWays_77 (Nat.le_of_ble_eq_true rfl) (tr_V [true, true, false, true, true] rfl rfl hv)
theorem bX8_findsWays_80 {l : Launch} {G : GT} {d : Nat} {M : Mem} {R : Option Value → Mem → Prop} {v1 : Int32} {v3 : Int32} {v4 : Int32} (hv : At l G (d + 4) mX8_findsWays 41 [some (.ref (G.1 100)), some (.int v1), none, some (.int v3), some (.int (v4 + 1))] [] M R) : At l G (d + 4) mX8_findsWays 80 [some (.ref (G.1 100)), some (.int v1), none, some (.int v3), some (.int v4)] [] M R := by
  refine a_iinc (v := 1) (vs' := [some (.ref (G.1 100)), some (.int v1), none, some (.int v3), some (.int (v4 + 1))]) eX8_findsWays_80 rfl rfl (by decide) rfl ?_
  refine a_goto (tgt := 41) eX8_findsWays_83 (by decide) ?_
  exact a_weak [true, true, false, true, true] rfl rfl hv
theorem tX8_goesBy {l : Launch} {G : GT} {d : Nat} {M : Mem} {R : Option Value → Mem → Prop} {v1 : Int32} {v2 : Int32} {v3 : Int32} {v4 : Int32} (hv : vp_in (42 + (3 * v2)) 3084 ∧ ((M 101 (ix (42 + (3 * v2)))) = v3 → vp_in ((42 + (3 * v2)) + 1) 3084 ∧ vp_in v3 10 ∧ ((M 112 (ix v3)) = v4 → vp_in (M 101 (ix ((42 + (3 * v2)) + 1))) 10 ∧ (0 ≤ (M 112 (ix (M 101 (ix ((42 + (3 * v2)) + 1))))) → R none M) ∧ (¬ (0 ≤ (M 112 (ix (M 101 (ix ((42 + (3 * v2)) + 1)))))) → vp_in ((42 + (3 * v2)) + 2) 3084 ∧ ((M 101 (ix ((42 + (3 * v2)) + 2))) = 1 → Tr l G (d + 3) mX8_isRead [.ref (G.1 100), .int v1, .int v2, .int v3] M (kI fun q M' => At l G (d + 4) mX8_goesBy 44 [some (.ref (G.1 100)), none, none, none, some (.int v4), some (.int (M 101 (ix ((42 + (3 * v2)) + 1))))] [.int q] M' R)) ∧ (¬ ((M 101 (ix ((42 + (3 * v2)) + 2))) = 1) → R none M))) ∧ (¬ ((M 112 (ix v3)) = v4) → R none M)) ∧ (¬ ((M 101 (ix (42 + (3 * v2)))) = v3) → vp_in (42 + (3 * v2)) 3084 ∧ vp_in v3 10 ∧ ((M 112 (ix v3)) = v4 → vp_in (M 101 (ix (42 + (3 * v2)))) 10 ∧ (0 ≤ (M 112 (ix (M 101 (ix (42 + (3 * v2)))))) → R none M) ∧ (¬ (0 ≤ (M 112 (ix (M 101 (ix (42 + (3 * v2))))))) → vp_in ((42 + (3 * v2)) + 2) 3084 ∧ ((M 101 (ix ((42 + (3 * v2)) + 2))) = 1 → Tr l G (d + 3) mX8_isRead [.ref (G.1 100), .int v1, .int v2, .int v3] M (kI fun q M' => At l G (d + 4) mX8_goesBy 44 [some (.ref (G.1 100)), none, none, none, some (.int v4), some (.int (M 101 (ix (42 + (3 * v2)))))] [.int q] M' R)) ∧ (¬ ((M 101 (ix ((42 + (3 * v2)) + 2))) = 1) → R none M))) ∧ (¬ ((M 112 (ix v3)) = v4) → R none M))) : Tr l G (d + 4) mX8_goesBy [.ref (G.1 100), .int v1, .int v2, .int v3, .int v4] M R := by
  refine Tr.of rfl (Nat.le_of_ble_eq_true rfl) (vs := [some (.ref (G.1 100)), some (.int v1), some (.int v2), some (.int v3), some (.int v4), none]) rfl ?_
  refine a_aload_n eX8_goesBy_0 rfl ?_
  refine a_iload_n eX8_goesBy_1 rfl ?_
  refine a_iload_n eX8_goesBy_2 rfl ?_
  refine qX8_177 rfl eX8_goesBy_3 (Nat.le_of_ble_eq_true rfl) ?_
  refine Tr.of rfl (Nat.le_of_ble_eq_true rfl) (vs := [some (.ref (G.1 100)), some (.int v2), some (.int v3)]) rfl ?_
  refine a_aload_n eX8_otherEnd_0 rfl ?_
  refine a_iload_n eX8_otherEnd_1 rfl ?_
  refine qX8_75 rfl eX8_otherEnd_2 (Nat.le_of_ble_eq_true rfl) ?_
  refine Tr.of rfl (Nat.le_of_ble_eq_true rfl) (vs := [some (.ref (G.1 100)), some (.int v2)]) rfl ?_
  refine a_aload_n eX8_from_0 rfl ?_
  refine gX8_0 eX8_from_1 fl_X8_7 ?_
  refine a_bipush (v := 42) eX8_from_4 (by decide) ?_
  refine a_iconst (v := 3) eX8_from_6 (by decide) ?_
  refine a_iload_n eX8_from_7 rfl ?_
  refine a_imul eX8_from_8 ?_
  refine a_iadd eX8_from_9 ?_
  obtain ⟨h1, hv⟩ := hv
  refine a_iald eX8_from_10 sA101 kA101 h1 ?_
  refine a_iret eX8_from_11 rfl rfl (ret_i ?_)
  refine a_iload_n eX8_otherEnd_5 rfl ?_
  refine a_icmp_ne (tgt := 17) eX8_otherEnd_6 (by decide) (fun w2 => ?_) (fun w2 => ?_)
  · replace hv := hv.2 w2
    refine a_aload_n eX8_otherEnd_17 rfl ?_
    refine a_iload_n eX8_otherEnd_18 rfl ?_
    refine qX8_75 rfl eX8_otherEnd_19 (Nat.le_of_ble_eq_true rfl) ?_
    refine Tr.of rfl (Nat.le_of_ble_eq_true rfl) (vs := [some (.ref (G.1 100)), some (.int v2)]) rfl ?_
    refine a_aload_n eX8_from_0 rfl ?_
    refine gX8_0 eX8_from_1 fl_X8_7 ?_
    refine a_bipush (v := 42) eX8_from_4 (by decide) ?_
    refine a_iconst (v := 3) eX8_from_6 (by decide) ?_
    refine a_iload_n eX8_from_7 rfl ?_
    refine a_imul eX8_from_8 ?_
    refine a_iadd eX8_from_9 ?_
    obtain ⟨h3, hv⟩ := hv
    refine a_iald eX8_from_10 sA101 kA101 h3 ?_
    refine a_iret eX8_from_11 rfl rfl (ret_i ?_)
    refine a_iret eX8_otherEnd_22 rfl rfl (ret_i ?_)
    refine a_istore (vs' := [some (.ref (G.1 100)), some (.int v1), some (.int v2), some (.int v3), some (.int v4), some (.int (M 101 (ix (42 + (3 * v2)))))]) eX8_goesBy_6 rfl (Nat.le_of_ble_eq_true rfl) rfl ?_
    refine a_aload_n eX8_goesBy_8 rfl ?_
    refine gX8_12 eX8_goesBy_9 fl_X8_43 ?_
    refine a_iload_n eX8_goesBy_12 rfl ?_
    obtain ⟨h4, hv⟩ := hv
    refine a_iald eX8_goesBy_13 sA112 kA112 h4 ?_
    refine a_iload eX8_goesBy_14 rfl ?_
    refine a_icmp_ne (tgt := 58) eX8_goesBy_16 (by decide) (fun w5 => ?_) (fun w5 => ?_)
    · replace hv := hv.2 w5
      exact a_vret eX8_goesBy_58 rfl hv
    · replace hv := hv.1 w5
      refine a_aload_n eX8_goesBy_19 rfl ?_
      refine gX8_12 eX8_goesBy_20 fl_X8_43 ?_
      refine a_iload eX8_goesBy_23 rfl ?_
      obtain ⟨h6, hv⟩ := hv
      refine a_iald eX8_goesBy_25 sA112 kA112 h6 ?_
      refine a_if_ge (tgt := 58) eX8_goesBy_26 (by decide) (fun w7 => ?_) (fun w7 => ?_)
      · replace hv := hv.1 w7
        exact a_vret eX8_goesBy_58 rfl hv
      · replace hv := hv.2 w7
        refine a_aload_n eX8_goesBy_29 rfl ?_
        refine a_iload_n eX8_goesBy_30 rfl ?_
        refine qX8_159 rfl eX8_goesBy_31 (Nat.le_of_ble_eq_true rfl) ?_
        refine Tr.of rfl (Nat.le_of_ble_eq_true rfl) (vs := [some (.ref (G.1 100)), some (.int v2)]) rfl ?_
        refine a_aload_n eX8_stands_0 rfl ?_
        refine gX8_0 eX8_stands_1 fl_X8_7 ?_
        refine a_bipush (v := 42) eX8_stands_4 (by decide) ?_
        refine a_iconst (v := 3) eX8_stands_6 (by decide) ?_
        refine a_iload_n eX8_stands_7 rfl ?_
        refine a_imul eX8_stands_8 ?_
        refine a_iadd eX8_stands_9 ?_
        refine a_iconst (v := 2) eX8_stands_10 (by decide) ?_
        refine a_iadd eX8_stands_11 ?_
        obtain ⟨h8, hv⟩ := hv
        refine a_iald eX8_stands_12 sA101 kA101 h8 ?_
        refine a_iconst (v := 1) eX8_stands_13 (by decide) ?_
        refine a_icmp_ne (tgt := 21) eX8_stands_14 (by decide) (fun w9 => ?_) (fun w9 => ?_)
        · replace hv := hv.2 w9
          refine a_iconst (v := 0) eX8_stands_21 (by decide) ?_
          refine a_iret eX8_stands_22 rfl rfl (ret_i ?_)
          refine a_if_eq (tgt := 58) eX8_goesBy_34 (by decide) (fun _ => ?_) (fun h => absurd h (by decide))
          exact a_vret eX8_goesBy_58 rfl hv
        · replace hv := hv.1 w9
          refine a_iconst (v := 1) eX8_stands_17 (by decide) ?_
          refine a_goto (tgt := 22) eX8_stands_18 (by decide) ?_
          refine a_iret eX8_stands_22 rfl rfl (ret_i ?_)
          refine a_if_eq (tgt := 58) eX8_goesBy_34 (by decide) (fun h => absurd h (by decide)) (fun _ => ?_)
          refine a_aload_n eX8_goesBy_37 rfl ?_
          refine a_iload_n eX8_goesBy_38 rfl ?_
          refine a_iload_n eX8_goesBy_39 rfl ?_
          refine a_iload_n eX8_goesBy_40 rfl ?_
          exact qX8_173 rfl eX8_goesBy_41 (Nat.le_of_ble_eq_true rfl) (tr_I [true, false, false, false, true, true] rfl rfl hv)
  · replace hv := hv.1 w2
    refine a_aload_n eX8_otherEnd_9 rfl ?_
    refine a_iload_n eX8_otherEnd_10 rfl ?_
    refine qX8_79 rfl eX8_otherEnd_11 (Nat.le_of_ble_eq_true rfl) ?_
    refine Tr.of rfl (Nat.le_of_ble_eq_true rfl) (vs := [some (.ref (G.1 100)), some (.int v2)]) rfl ?_
    refine a_aload_n eX8_to_0 rfl ?_
    refine gX8_0 eX8_to_1 fl_X8_7 ?_
    refine a_bipush (v := 42) eX8_to_4 (by decide) ?_
    refine a_iconst (v := 3) eX8_to_6 (by decide) ?_
    refine a_iload_n eX8_to_7 rfl ?_
    refine a_imul eX8_to_8 ?_
    refine a_iadd eX8_to_9 ?_
    refine a_iconst (v := 1) eX8_to_10 (by decide) ?_
    refine a_iadd eX8_to_11 ?_
    obtain ⟨h10, hv⟩ := hv
    refine a_iald eX8_to_12 sA101 kA101 h10 ?_
    refine a_iret eX8_to_13 rfl rfl (ret_i ?_)
    refine a_goto (tgt := 22) eX8_otherEnd_14 (by decide) ?_
    refine a_iret eX8_otherEnd_22 rfl rfl (ret_i ?_)
    refine a_istore (vs' := [some (.ref (G.1 100)), some (.int v1), some (.int v2), some (.int v3), some (.int v4), some (.int (M 101 (ix ((42 + (3 * v2)) + 1))))]) eX8_goesBy_6 rfl (Nat.le_of_ble_eq_true rfl) rfl ?_
    refine a_aload_n eX8_goesBy_8 rfl ?_
    refine gX8_12 eX8_goesBy_9 fl_X8_43 ?_
    refine a_iload_n eX8_goesBy_12 rfl ?_
    obtain ⟨h11, hv⟩ := hv
    refine a_iald eX8_goesBy_13 sA112 kA112 h11 ?_
    refine a_iload eX8_goesBy_14 rfl ?_
    refine a_icmp_ne (tgt := 58) eX8_goesBy_16 (by decide) (fun w12 => ?_) (fun w12 => ?_)
    · replace hv := hv.2 w12
      exact a_vret eX8_goesBy_58 rfl hv
    · replace hv := hv.1 w12
      refine a_aload_n eX8_goesBy_19 rfl ?_
      refine gX8_12 eX8_goesBy_20 fl_X8_43 ?_
      refine a_iload eX8_goesBy_23 rfl ?_
      obtain ⟨h13, hv⟩ := hv
      refine a_iald eX8_goesBy_25 sA112 kA112 h13 ?_
      refine a_if_ge (tgt := 58) eX8_goesBy_26 (by decide) (fun w14 => ?_) (fun w14 => ?_)
      · replace hv := hv.1 w14
        exact a_vret eX8_goesBy_58 rfl hv
      · replace hv := hv.2 w14
        refine a_aload_n eX8_goesBy_29 rfl ?_
        refine a_iload_n eX8_goesBy_30 rfl ?_
        refine qX8_159 rfl eX8_goesBy_31 (Nat.le_of_ble_eq_true rfl) ?_
        refine Tr.of rfl (Nat.le_of_ble_eq_true rfl) (vs := [some (.ref (G.1 100)), some (.int v2)]) rfl ?_
        refine a_aload_n eX8_stands_0 rfl ?_
        refine gX8_0 eX8_stands_1 fl_X8_7 ?_
        refine a_bipush (v := 42) eX8_stands_4 (by decide) ?_
        refine a_iconst (v := 3) eX8_stands_6 (by decide) ?_
        refine a_iload_n eX8_stands_7 rfl ?_
        refine a_imul eX8_stands_8 ?_
        refine a_iadd eX8_stands_9 ?_
        refine a_iconst (v := 2) eX8_stands_10 (by decide) ?_
        refine a_iadd eX8_stands_11 ?_
        obtain ⟨h15, hv⟩ := hv
        refine a_iald eX8_stands_12 sA101 kA101 h15 ?_
        refine a_iconst (v := 1) eX8_stands_13 (by decide) ?_
        refine a_icmp_ne (tgt := 21) eX8_stands_14 (by decide) (fun w16 => ?_) (fun w16 => ?_)
        · replace hv := hv.2 w16
          refine a_iconst (v := 0) eX8_stands_21 (by decide) ?_
          refine a_iret eX8_stands_22 rfl rfl (ret_i ?_)
          refine a_if_eq (tgt := 58) eX8_goesBy_34 (by decide) (fun _ => ?_) (fun h => absurd h (by decide))
          exact a_vret eX8_goesBy_58 rfl hv
        · replace hv := hv.1 w16
          refine a_iconst (v := 1) eX8_stands_17 (by decide) ?_
          refine a_goto (tgt := 22) eX8_stands_18 (by decide) ?_
          refine a_iret eX8_stands_22 rfl rfl (ret_i ?_)
          refine a_if_eq (tgt := 58) eX8_goesBy_34 (by decide) (fun h => absurd h (by decide)) (fun _ => ?_)
          refine a_aload_n eX8_goesBy_37 rfl ?_
          refine a_iload_n eX8_goesBy_38 rfl ?_
          refine a_iload_n eX8_goesBy_39 rfl ?_
          refine a_iload_n eX8_goesBy_40 rfl ?_
          exact qX8_173 rfl eX8_goesBy_41 (Nat.le_of_ble_eq_true rfl) (tr_I [true, false, false, false, true, true] rfl rfl hv)
theorem bX8_goesBy_44 {l : Launch} {G : GT} {d : Nat} {M : Mem} {R : Option Value → Mem → Prop} {v4 : Int32} {v5 : Int32} {r : Int32} (hv : (r = 0 → R none M) ∧ (¬ (r = 0) → vp_in v5 10 ∧ R none (um M 112 (ix v5) (v4 + 1)))) : At l G (d + 4) mX8_goesBy 44 [some (.ref (G.1 100)), none, none, none, some (.int v4), some (.int v5)] [.int r] M R := by
  refine a_if_eq (tgt := 58) eX8_goesBy_44 (by decide) (fun w1 => ?_) (fun w1 => ?_)
  · replace hv := hv.1 w1
    exact a_vret eX8_goesBy_58 rfl hv
  · replace hv := hv.2 w1
    refine a_aload_n eX8_goesBy_47 rfl ?_
    refine gX8_12 eX8_goesBy_48 fl_X8_43 ?_
    refine a_iload eX8_goesBy_51 rfl ?_
    refine a_iload eX8_goesBy_53 rfl ?_
    refine a_iconst (v := 1) eX8_goesBy_55 (by decide) ?_
    refine a_iadd eX8_goesBy_56 ?_
    obtain ⟨h2, hv⟩ := hv
    refine a_iast eX8_goesBy_57 sA112 kA112 h2 ?_
    exact a_vret eX8_goesBy_58 rfl hv
theorem tX8_journeyOf {l : Launch} {G : GT} {d : Nat} {M : Mem} {R : Option Value → Mem → Prop} {v1 : Int32} {v2 : Int32} {v3 : Int32} (hv : Tr l G (d + 3) mX8_findsWays [.ref (G.1 100), .int v1, .int v2] M (kV fun M' => At l G (d + 4) mX8_journeyOf 6 [some (.ref (G.1 100)), none, none, some (.int v3)] [] M' R)) : Tr l G (d + 4) mX8_journeyOf [.ref (G.1 100), .int v1, .int v2, .int v3] M R := by
  refine Tr.of rfl (Nat.le_of_ble_eq_true rfl) (vs := [some (.ref (G.1 100)), some (.int v1), some (.int v2), some (.int v3)]) rfl ?_
  refine a_aload_n eX8_journeyOf_0 rfl ?_
  refine a_iload_n eX8_journeyOf_1 rfl ?_
  refine a_iload_n eX8_journeyOf_2 rfl ?_
  exact qX8_212 rfl eX8_journeyOf_3 (Nat.le_of_ble_eq_true rfl) (tr_V [true, false, false, true] rfl rfl hv)
theorem bX8_journeyOf_6 {l : Launch} {G : GT} {d : Nat} {M : Mem} {R : Option Value → Mem → Prop} {v3 : Int32} (hv : vp_in v3 10 ∧ R (some (.int (M 112 (ix v3)))) M) : At l G (d + 4) mX8_journeyOf 6 [some (.ref (G.1 100)), none, none, some (.int v3)] [] M R := by
  refine a_aload_n eX8_journeyOf_6 rfl ?_
  refine gX8_12 eX8_journeyOf_7 fl_X8_43 ?_
  refine a_iload_n eX8_journeyOf_10 rfl ?_
  obtain ⟨h1, hv⟩ := hv
  refine a_iald eX8_journeyOf_11 sA112 kA112 h1 ?_
  exact a_iret eX8_journeyOf_12 rfl rfl hv
theorem tX8_journey {l : Launch} {G : GT} {d : Nat} {M : Mem} {R : Option Value → Mem → Prop} {v1 : Int32} {v2 : Int32} {v3 : Int32} (hv : (0 ≤ v1 → (v1 ≤ (((1 : Int32) <<< ((M 101 0) &&& 31)) - 1) → (0 ≤ v2 → (v2 ≤ 9 → (0 ≤ v3 → (v3 ≤ 9 → Tr l G (d + 3) mX8_journeyOf [.ref (G.1 100), .int v1, .int v2, .int v3] M (kI fun q M' => At l G (d + 4) mX8_journey 38 [none, none, none, none] [.int q] M' R)) ∧ (¬ (v3 ≤ 9) → R (some (.int (-1000000001))) M)) ∧ (¬ (0 ≤ v3) → R (some (.int (-1000000001))) M)) ∧ (¬ (v2 ≤ 9) → R (some (.int (-1000000001))) M)) ∧ (¬ (0 ≤ v2) → R (some (.int (-1000000001))) M)) ∧ (¬ (v1 ≤ (((1 : Int32) <<< ((M 101 0) &&& 31)) - 1)) → R (some (.int (-1000000001))) M)) ∧ (¬ (0 ≤ v1) → R (some (.int (-1000000001))) M)) : Tr l G (d + 4) mX8_journey [.ref (G.1 100), .int v1, .int v2, .int v3] M R := by
  refine Tr.of rfl (Nat.le_of_ble_eq_true rfl) (vs := [some (.ref (G.1 100)), some (.int v1), some (.int v2), some (.int v3)]) rfl ?_
  refine a_iload_n eX8_journey_0 rfl ?_
  refine a_i2l eX8_journey_1 ?_
  refine a_lconsti 0 eX8_journey_2 (by decide) ?_
  refine a_aload_n eX8_journey_3 rfl ?_
  refine qX8_200 rfl eX8_journey_4 (Nat.le_of_ble_eq_true rfl) ?_
  refine Tr.of rfl (Nat.le_of_ble_eq_true rfl) (vs := [some (.ref (G.1 100))]) rfl ?_
  refine a_iconst (v := 1) eX8_everybody_0 (by decide) ?_
  refine a_aload_n eX8_everybody_1 rfl ?_
  refine gX8_0 eX8_everybody_2 fl_X8_7 ?_
  refine a_iconst (v := 0) eX8_everybody_5 (by decide) ?_
  refine a_ialdc 0 eX8_everybody_6 sA101 kA101 (by decide) (by decide) ?_
  refine a_ishl eX8_everybody_7 ?_
  refine a_iconst (v := 1) eX8_everybody_8 (by decide) ?_
  refine a_isub eX8_everybody_9 ?_
  refine a_iret eX8_everybody_10 rfl rfl (ret_i ?_)
  refine a_i2l eX8_journey_7 ?_
  refine qX8_68 rfl eX8_journey_8 (Nat.le_of_ble_eq_true rfl) ?_
  refine in_isIn (v := v1) (lo := 0) (hi := ((1 : Int32) <<< ((M 101 0) &&& 31)) - 1) ⟨fun w5 => ⟨fun w6 => ret_i ?_, fun w6 => ret_i ?_⟩, fun w5 => ret_i ?_⟩
  · replace hv := (hv.1 w5).1 w6
    refine a_if_eq (tgt := 28) eX8_journey_11 (by decide) (fun h => absurd h (by decide)) (fun _ => ?_)
    refine a_iload_n eX8_journey_14 rfl ?_
    refine qX8_111 rfl eX8_journey_15 (Nat.le_of_ble_eq_true rfl) ?_
    refine Tr.of rfl (Nat.le_of_ble_eq_true rfl) (vs := [some (.int v2)]) rfl ?_
    refine a_iload_n eX8_isPlace_0 rfl ?_
    refine a_i2l eX8_isPlace_1 ?_
    refine a_lconsti 0 eX8_isPlace_2 (by decide) ?_
    refine a_ldc2i 9 eX8_isPlace_3 kl_X8_73 (by decide) ?_
    refine qX8_68 rfl eX8_isPlace_6 (Nat.le_of_ble_eq_true rfl) ?_
    refine in_isIn (v := v2) (lo := 0) (hi := 9) ⟨fun w3 => ⟨fun w4 => ret_i ?_, fun w4 => ret_i ?_⟩, fun w3 => ret_i ?_⟩
    · replace hv := (hv.1 w3).1 w4
      refine a_iret eX8_isPlace_9 rfl rfl (ret_i ?_)
      refine a_if_eq (tgt := 28) eX8_journey_18 (by decide) (fun h => absurd h (by decide)) (fun _ => ?_)
      refine a_iload_n eX8_journey_21 rfl ?_
      refine qX8_111 rfl eX8_journey_22 (Nat.le_of_ble_eq_true rfl) ?_
      refine Tr.of rfl (Nat.le_of_ble_eq_true rfl) (vs := [some (.int v3)]) rfl ?_
      refine a_iload_n eX8_isPlace_0 rfl ?_
      refine a_i2l eX8_isPlace_1 ?_
      refine a_lconsti 0 eX8_isPlace_2 (by decide) ?_
      refine a_ldc2i 9 eX8_isPlace_3 kl_X8_73 (by decide) ?_
      refine qX8_68 rfl eX8_isPlace_6 (Nat.le_of_ble_eq_true rfl) ?_
      refine in_isIn (v := v3) (lo := 0) (hi := 9) ⟨fun w1 => ⟨fun w2 => ret_i ?_, fun w2 => ret_i ?_⟩, fun w1 => ret_i ?_⟩
      · replace hv := (hv.1 w1).1 w2
        refine a_iret eX8_isPlace_9 rfl rfl (ret_i ?_)
        refine a_if_ne (tgt := 31) eX8_journey_25 (by decide) (fun _ => ?_) (fun h => absurd h (by decide))
        refine a_aload_n eX8_journey_31 rfl ?_
        refine a_iload_n eX8_journey_32 rfl ?_
        refine a_iload_n eX8_journey_33 rfl ?_
        refine a_iload_n eX8_journey_34 rfl ?_
        exact qX8_215 rfl eX8_journey_35 (Nat.le_of_ble_eq_true rfl) (tr_I [false, false, false, false] rfl rfl hv)
      · replace hv := (hv.1 w1).2 w2
        refine a_iret eX8_isPlace_9 rfl rfl (ret_i ?_)
        refine a_if_ne (tgt := 31) eX8_journey_25 (by decide) (fun h => absurd h (by decide)) (fun _ => ?_)
        refine a_ldc eX8_journey_28 kc_X8_117 ?_
        exact a_iret eX8_journey_30 rfl rfl hv
      · replace hv := hv.2 w1
        refine a_iret eX8_isPlace_9 rfl rfl (ret_i ?_)
        refine a_if_ne (tgt := 31) eX8_journey_25 (by decide) (fun h => absurd h (by decide)) (fun _ => ?_)
        refine a_ldc eX8_journey_28 kc_X8_117 ?_
        exact a_iret eX8_journey_30 rfl rfl hv
    · replace hv := (hv.1 w3).2 w4
      refine a_iret eX8_isPlace_9 rfl rfl (ret_i ?_)
      refine a_if_eq (tgt := 28) eX8_journey_18 (by decide) (fun _ => ?_) (fun h => absurd h (by decide))
      refine a_ldc eX8_journey_28 kc_X8_117 ?_
      exact a_iret eX8_journey_30 rfl rfl hv
    · replace hv := hv.2 w3
      refine a_iret eX8_isPlace_9 rfl rfl (ret_i ?_)
      refine a_if_eq (tgt := 28) eX8_journey_18 (by decide) (fun _ => ?_) (fun h => absurd h (by decide))
      refine a_ldc eX8_journey_28 kc_X8_117 ?_
      exact a_iret eX8_journey_30 rfl rfl hv
  · replace hv := (hv.1 w5).2 w6
    refine a_if_eq (tgt := 28) eX8_journey_11 (by decide) (fun _ => ?_) (fun h => absurd h (by decide))
    refine a_ldc eX8_journey_28 kc_X8_117 ?_
    exact a_iret eX8_journey_30 rfl rfl hv
  · replace hv := hv.2 w5
    refine a_if_eq (tgt := 28) eX8_journey_11 (by decide) (fun _ => ?_) (fun h => absurd h (by decide))
    refine a_ldc eX8_journey_28 kc_X8_117 ?_
    exact a_iret eX8_journey_30 rfl rfl hv
theorem bX8_journey_38 {l : Launch} {G : GT} {d : Nat} {M : Mem} {R : Option Value → Mem → Prop} {r : Int32} (hv : (0 ≤ r → R (some (.int r)) M) ∧ (¬ (0 ≤ r) → R (some (.int (-1000000005))) M)) : At l G (d + 4) mX8_journey 38 [none, none, none, none] [.int r] M R := by
  refine qX8_219 rfl eX8_journey_38 (Nat.le_of_ble_eq_true rfl) ?_
  refine Tr.of rfl (Nat.le_of_ble_eq_true rfl) (vs := [some (.int r)]) rfl ?_
  refine a_iload_n eX8_orNone_0 rfl ?_
  refine a_if_ge (tgt := 9) eX8_orNone_1 (by decide) (fun w1 => ?_) (fun w1 => ?_)
  · replace hv := hv.1 w1
    refine a_iload_n eX8_orNone_9 rfl ?_
    refine a_iret eX8_orNone_10 rfl rfl (ret_i ?_)
    exact a_iret eX8_journey_41 rfl rfl hv
  · replace hv := hv.2 w1
    refine a_ldc eX8_orNone_4 kc_X8_67 ?_
    refine a_goto (tgt := 10) eX8_orNone_6 (by decide) ?_
    refine a_iret eX8_orNone_10 rfl rfl (ret_i ?_)
    exact a_iret eX8_journey_41 rfl rfl hv
theorem tX8_reach {l : Launch} {G : GT} {d : Nat} {M : Mem} {R : Option Value → Mem → Prop} {v1 : Int32} (hv : (0 ≤ v1 → (v1 ≤ ((M 101 0) - 1) → vp_in ((10 + (4 * v1)) + 1) 3084 ∧ Tr l G (d + 3) mX8_findsWays [.ref (G.1 100), .int ((1 : Int32) <<< (v1 &&& 31)), .int (M 101 (ix ((10 + (4 * v1)) + 1)))] M (kV fun M' => At l G (d + 4) mX8_reach 24 [some (.ref (G.1 100)), none, none, none] [] M' R)) ∧ (¬ (v1 ≤ ((M 101 0) - 1)) → R (some (.int (-1000000001))) M)) ∧ (¬ (0 ≤ v1) → R (some (.int (-1000000001))) M)) : Tr l G (d + 4) mX8_reach [.ref (G.1 100), .int v1] M R := by
  refine Tr.of rfl (Nat.le_of_ble_eq_true rfl) (vs := [some (.ref (G.1 100)), some (.int v1), none, none]) rfl ?_
  refine a_aload_n eX8_reach_0 rfl ?_
  refine a_iload_n eX8_reach_1 rfl ?_
  refine qX8_123 rfl eX8_reach_2 (Nat.le_of_ble_eq_true rfl) ?_
  refine Tr.of rfl (Nat.le_of_ble_eq_true rfl) (vs := [some (.ref (G.1 100)), some (.int v1)]) rfl ?_
  refine a_iload_n eX8_isOne_0 rfl ?_
  refine a_i2l eX8_isOne_1 ?_
  refine a_lconsti 0 eX8_isOne_2 (by decide) ?_
  refine a_aload_n eX8_isOne_3 rfl ?_
  refine gX8_0 eX8_isOne_4 fl_X8_7 ?_
  refine a_iconst (v := 0) eX8_isOne_7 (by decide) ?_
  refine a_ialdc 0 eX8_isOne_8 sA101 kA101 (by decide) (by decide) ?_
  refine a_iconst (v := 1) eX8_isOne_9 (by decide) ?_
  refine a_isub eX8_isOne_10 ?_
  refine a_i2l eX8_isOne_11 ?_
  refine qX8_68 rfl eX8_isOne_12 (Nat.le_of_ble_eq_true rfl) ?_
  refine in_isIn (v := v1) (lo := 0) (hi := (M 101 0) - 1) ⟨fun w2 => ⟨fun w3 => ret_i ?_, fun w3 => ret_i ?_⟩, fun w2 => ret_i ?_⟩
  · replace hv := (hv.1 w2).1 w3
    refine a_iret eX8_isOne_15 rfl rfl (ret_i ?_)
    refine a_if_ne (tgt := 11) eX8_reach_5 (by decide) (fun _ => ?_) (fun h => absurd h (by decide))
    refine a_aload_n eX8_reach_11 rfl ?_
    refine a_iconst (v := 1) eX8_reach_12 (by decide) ?_
    refine a_iload_n eX8_reach_13 rfl ?_
    refine a_ishl eX8_reach_14 ?_
    refine a_aload_n eX8_reach_15 rfl ?_
    refine a_iload_n eX8_reach_16 rfl ?_
    refine a_iconst (v := 1) eX8_reach_17 (by decide) ?_
    refine qX8_86 rfl eX8_reach_18 (Nat.le_of_ble_eq_true rfl) ?_
    refine Tr.of rfl (Nat.le_of_ble_eq_true rfl) (vs := [some (.ref (G.1 100)), some (.int v1), some (.int 1)]) rfl ?_
    refine a_aload_n eX8_of_0 rfl ?_
    refine gX8_0 eX8_of_1 fl_X8_7 ?_
    refine a_bipush (v := 10) eX8_of_4 (by decide) ?_
    refine a_iconst (v := 4) eX8_of_6 (by decide) ?_
    refine a_iload_n eX8_of_7 rfl ?_
    refine a_imul eX8_of_8 ?_
    refine a_iadd eX8_of_9 ?_
    refine a_iload_n eX8_of_10 rfl ?_
    refine a_iadd eX8_of_11 ?_
    obtain ⟨h1, hv⟩ := hv
    refine a_iald eX8_of_12 sA101 kA101 h1 ?_
    refine a_iret eX8_of_13 rfl rfl (ret_i ?_)
    exact qX8_212 rfl eX8_reach_21 (Nat.le_of_ble_eq_true rfl) (tr_V [true, false, false, false] rfl rfl hv)
  · replace hv := (hv.1 w2).2 w3
    refine a_iret eX8_isOne_15 rfl rfl (ret_i ?_)
    refine a_if_ne (tgt := 11) eX8_reach_5 (by decide) (fun h => absurd h (by decide)) (fun _ => ?_)
    refine a_ldc eX8_reach_8 kc_X8_117 ?_
    exact a_iret eX8_reach_10 rfl rfl hv
  · replace hv := hv.2 w2
    refine a_iret eX8_isOne_15 rfl rfl (ret_i ?_)
    refine a_if_ne (tgt := 11) eX8_reach_5 (by decide) (fun h => absurd h (by decide)) (fun _ => ?_)
    refine a_ldc eX8_reach_8 kc_X8_117 ?_
    exact a_iret eX8_reach_10 rfl rfl hv
theorem bX8_reach_24 {l : Launch} {G : GT} {d : Nat} {M : Mem} {R : Option Value → Mem → Prop}  (hv : At l G (d + 4) mX8_reach 28 [some (.ref (G.1 100)), none, some (.int 0), some (.int 0)] [] M R) : At l G (d + 4) mX8_reach 24 [some (.ref (G.1 100)), none, none, none] [] M R := by
  refine a_iconst (v := 0) eX8_reach_24 (by decide) ?_
  refine a_istore_n (vs' := [some (.ref (G.1 100)), none, some (.int 0), none]) eX8_reach_25 rfl (Nat.le_of_ble_eq_true rfl) rfl ?_
  refine a_iconst (v := 0) eX8_reach_26 (by decide) ?_
  refine a_istore_n (vs' := [some (.ref (G.1 100)), none, some (.int 0), some (.int 0)]) eX8_reach_27 rfl (Nat.le_of_ble_eq_true rfl) rfl ?_
  exact a_weak [true, false, true, true] rfl rfl hv
theorem bX8_reach_28 {l : Launch} {G : GT} {d : Nat} {M : Mem} {R : Option Value → Mem → Prop} {v2 : Int32} {v3 : Int32} (hv : (10 ≤ v3 → R (some (.int v2)) M) ∧ (¬ (10 ≤ v3) → vp_in v3 10 ∧ ((M 112 (ix v3)) < 0 → At l G (d + 4) mX8_reach 28 [some (.ref (G.1 100)), none, some (.int (v2 ||| 0)), some (.int (v3 + 1))] [] M R) ∧ (¬ ((M 112 (ix v3)) < 0) → At l G (d + 4) mX8_reach 28 [some (.ref (G.1 100)), none, some (.int (v2 ||| ((1 : Int32) <<< (v3 &&& 31)))), some (.int (v3 + 1))] [] M R))) : At l G (d + 4) mX8_reach 28 [some (.ref (G.1 100)), none, some (.int v2), some (.int v3)] [] M R := by
  refine a_iload_n eX8_reach_28 rfl ?_
  refine a_bipush (v := 10) eX8_reach_29 (by decide) ?_
  refine a_icmp_ge (tgt := 59) eX8_reach_31 (by decide) (fun w1 => ?_) (fun w1 => ?_)
  · replace hv := hv.1 w1
    refine a_iload_n eX8_reach_59 rfl ?_
    exact a_iret eX8_reach_60 rfl rfl hv
  · replace hv := hv.2 w1
    refine a_iload_n eX8_reach_34 rfl ?_
    refine a_aload_n eX8_reach_35 rfl ?_
    refine gX8_12 eX8_reach_36 fl_X8_43 ?_
    refine a_iload_n eX8_reach_39 rfl ?_
    obtain ⟨h2, hv⟩ := hv
    refine a_iald eX8_reach_40 sA112 kA112 h2 ?_
    refine a_if_lt (tgt := 50) eX8_reach_41 (by decide) (fun w3 => ?_) (fun w3 => ?_)
    · replace hv := hv.1 w3
      refine a_iconst (v := 0) eX8_reach_50 (by decide) ?_
      refine a_ior eX8_reach_51 ?_
      refine a_istore_n (vs' := [some (.ref (G.1 100)), none, some (.int (v2 ||| 0)), some (.int v3)]) eX8_reach_52 rfl (Nat.le_of_ble_eq_true rfl) rfl ?_
      refine a_iinc (v := 1) (vs' := [some (.ref (G.1 100)), none, some (.int (v2 ||| 0)), some (.int (v3 + 1))]) eX8_reach_53 rfl rfl (by decide) rfl ?_
      refine a_goto (tgt := 28) eX8_reach_56 (by decide) ?_
      exact a_weak [true, false, true, true] rfl rfl hv
    · replace hv := hv.2 w3
      refine a_iconst (v := 1) eX8_reach_44 (by decide) ?_
      refine a_iload_n eX8_reach_45 rfl ?_
      refine a_ishl eX8_reach_46 ?_
      refine a_goto (tgt := 51) eX8_reach_47 (by decide) ?_
      refine a_ior eX8_reach_51 ?_
      refine a_istore_n (vs' := [some (.ref (G.1 100)), none, some (.int (v2 ||| ((1 : Int32) <<< (v3 &&& 31)))), some (.int v3)]) eX8_reach_52 rfl (Nat.le_of_ble_eq_true rfl) rfl ?_
      refine a_iinc (v := 1) (vs' := [some (.ref (G.1 100)), none, some (.int (v2 ||| ((1 : Int32) <<< (v3 &&& 31)))), some (.int (v3 + 1))]) eX8_reach_53 rfl rfl (by decide) rfl ?_
      refine a_goto (tgt := 28) eX8_reach_56 (by decide) ?_
      exact a_weak [true, false, true, true] rfl rfl hv
theorem tX8_company {l : Launch} {G : GT} {d : Nat} {M : Mem} {R : Option Value → Mem → Prop} {v1 : Int32} {v2 : Int32} {v3 : Int32} (hv : (0 ≤ v1 → (v1 ≤ 9 → (0 ≤ v2 → (v2 ≤ 9 → (0 ≤ v3 → (v3 ≤ 1 → Tr l G (d + 3) mX8_those [.ref (G.1 100), .int v1] M (kI fun q M' => At l G (d + 4) mX8_company 32 [some (.ref (G.1 100)), some (.int v1), some (.int v2), some (.int v3), none, none, none, none] [.int q] M' R)) ∧ (¬ (v3 ≤ 1) → R (some (.int (-1000000001))) M)) ∧ (¬ (0 ≤ v3) → R (some (.int (-1000000001))) M)) ∧ (¬ (v2 ≤ 9) → R (some (.int (-1000000001))) M)) ∧ (¬ (0 ≤ v2) → R (some (.int (-1000000001))) M)) ∧ (¬ (v1 ≤ 9) → R (some (.int (-1000000001))) M)) ∧ (¬ (0 ≤ v1) → R (some (.int (-1000000001))) M)) : Tr l G (d + 4) mX8_company [.ref (G.1 100), .int v1, .int v2, .int v3] M R := by
  refine Tr.of rfl (Nat.le_of_ble_eq_true rfl) (vs := [some (.ref (G.1 100)), some (.int v1), some (.int v2), some (.int v3), none, none, none, none]) rfl ?_
  refine a_iload_n eX8_company_0 rfl ?_
  refine qX8_111 rfl eX8_company_1 (Nat.le_of_ble_eq_true rfl) ?_
  refine Tr.of rfl (Nat.le_of_ble_eq_true rfl) (vs := [some (.int v1)]) rfl ?_
  refine a_iload_n eX8_isPlace_0 rfl ?_
  refine a_i2l eX8_isPlace_1 ?_
  refine a_lconsti 0 eX8_isPlace_2 (by decide) ?_
  refine a_ldc2i 9 eX8_isPlace_3 kl_X8_73 (by decide) ?_
  refine qX8_68 rfl eX8_isPlace_6 (Nat.le_of_ble_eq_true rfl) ?_
  refine in_isIn (v := v1) (lo := 0) (hi := 9) ⟨fun w5 => ⟨fun w6 => ret_i ?_, fun w6 => ret_i ?_⟩, fun w5 => ret_i ?_⟩
  · replace hv := (hv.1 w5).1 w6
    refine a_iret eX8_isPlace_9 rfl rfl (ret_i ?_)
    refine a_if_eq (tgt := 24) eX8_company_4 (by decide) (fun h => absurd h (by decide)) (fun _ => ?_)
    refine a_iload_n eX8_company_7 rfl ?_
    refine qX8_111 rfl eX8_company_8 (Nat.le_of_ble_eq_true rfl) ?_
    refine Tr.of rfl (Nat.le_of_ble_eq_true rfl) (vs := [some (.int v2)]) rfl ?_
    refine a_iload_n eX8_isPlace_0 rfl ?_
    refine a_i2l eX8_isPlace_1 ?_
    refine a_lconsti 0 eX8_isPlace_2 (by decide) ?_
    refine a_ldc2i 9 eX8_isPlace_3 kl_X8_73 (by decide) ?_
    refine qX8_68 rfl eX8_isPlace_6 (Nat.le_of_ble_eq_true rfl) ?_
    refine in_isIn (v := v2) (lo := 0) (hi := 9) ⟨fun w3 => ⟨fun w4 => ret_i ?_, fun w4 => ret_i ?_⟩, fun w3 => ret_i ?_⟩
    · replace hv := (hv.1 w3).1 w4
      refine a_iret eX8_isPlace_9 rfl rfl (ret_i ?_)
      refine a_if_eq (tgt := 24) eX8_company_11 (by decide) (fun h => absurd h (by decide)) (fun _ => ?_)
      refine a_iload_n eX8_company_14 rfl ?_
      refine a_i2l eX8_company_15 ?_
      refine a_lconsti 0 eX8_company_16 (by decide) ?_
      refine a_lconsti 1 eX8_company_17 (by decide) ?_
      refine qX8_68 rfl eX8_company_18 (Nat.le_of_ble_eq_true rfl) ?_
      refine in_isIn (v := v3) (lo := 0) (hi := 1) ⟨fun w1 => ⟨fun w2 => ret_i ?_, fun w2 => ret_i ?_⟩, fun w1 => ret_i ?_⟩
      · replace hv := (hv.1 w1).1 w2
        refine a_if_ne (tgt := 27) eX8_company_21 (by decide) (fun _ => ?_) (fun h => absurd h (by decide))
        refine a_aload_n eX8_company_27 rfl ?_
        refine a_iload_n eX8_company_28 rfl ?_
        exact qX8_162 rfl eX8_company_29 (Nat.le_of_ble_eq_true rfl) (tr_I [true, true, true, true, false, false, false, false] rfl rfl hv)
      · replace hv := (hv.1 w1).2 w2
        refine a_if_ne (tgt := 27) eX8_company_21 (by decide) (fun h => absurd h (by decide)) (fun _ => ?_)
        refine a_ldc eX8_company_24 kc_X8_117 ?_
        exact a_iret eX8_company_26 rfl rfl hv
      · replace hv := hv.2 w1
        refine a_if_ne (tgt := 27) eX8_company_21 (by decide) (fun h => absurd h (by decide)) (fun _ => ?_)
        refine a_ldc eX8_company_24 kc_X8_117 ?_
        exact a_iret eX8_company_26 rfl rfl hv
    · replace hv := (hv.1 w3).2 w4
      refine a_iret eX8_isPlace_9 rfl rfl (ret_i ?_)
      refine a_if_eq (tgt := 24) eX8_company_11 (by decide) (fun _ => ?_) (fun h => absurd h (by decide))
      refine a_ldc eX8_company_24 kc_X8_117 ?_
      exact a_iret eX8_company_26 rfl rfl hv
    · replace hv := hv.2 w3
      refine a_iret eX8_isPlace_9 rfl rfl (ret_i ?_)
      refine a_if_eq (tgt := 24) eX8_company_11 (by decide) (fun _ => ?_) (fun h => absurd h (by decide))
      refine a_ldc eX8_company_24 kc_X8_117 ?_
      exact a_iret eX8_company_26 rfl rfl hv
  · replace hv := (hv.1 w5).2 w6
    refine a_iret eX8_isPlace_9 rfl rfl (ret_i ?_)
    refine a_if_eq (tgt := 24) eX8_company_4 (by decide) (fun _ => ?_) (fun h => absurd h (by decide))
    refine a_ldc eX8_company_24 kc_X8_117 ?_
    exact a_iret eX8_company_26 rfl rfl hv
  · replace hv := hv.2 w5
    refine a_iret eX8_isPlace_9 rfl rfl (ret_i ?_)
    refine a_if_eq (tgt := 24) eX8_company_4 (by decide) (fun _ => ?_) (fun h => absurd h (by decide))
    refine a_ldc eX8_company_24 kc_X8_117 ?_
    exact a_iret eX8_company_26 rfl rfl hv
theorem bX8_company_32 {l : Launch} {G : GT} {d : Nat} {M : Mem} {R : Option Value → Mem → Prop} {v1 : Int32} {v2 : Int32} {v3 : Int32} {r : Int32} (hv : At l G (d + 4) mX8_company 44 [some (.ref (G.1 100)), some (.int v1), some (.int v2), some (.int v3), some (.int r), some (.int (-1)), some (.int 9), some (.int 0)] [] M R) : At l G (d + 4) mX8_company 32 [some (.ref (G.1 100)), some (.int v1), some (.int v2), some (.int v3), none, none, none, none] [.int r] M R := by
  refine a_istore (vs' := [some (.ref (G.1 100)), some (.int v1), some (.int v2), some (.int v3), some (.int r), none, none, none]) eX8_company_32 rfl (Nat.le_of_ble_eq_true rfl) rfl ?_
  refine a_iconst (v := (-1)) eX8_company_34 (by decide) ?_
  refine a_istore (vs' := [some (.ref (G.1 100)), some (.int v1), some (.int v2), some (.int v3), some (.int r), some (.int (-1)), none, none]) eX8_company_35 rfl (Nat.le_of_ble_eq_true rfl) rfl ?_
  refine a_bipush (v := 9) eX8_company_37 (by decide) ?_
  refine a_istore (vs' := [some (.ref (G.1 100)), some (.int v1), some (.int v2), some (.int v3), some (.int r), some (.int (-1)), some (.int 9), none]) eX8_company_39 rfl (Nat.le_of_ble_eq_true rfl) rfl ?_
  refine a_iconst (v := 0) eX8_company_41 (by decide) ?_
  refine a_istore (vs' := [some (.ref (G.1 100)), some (.int v1), some (.int v2), some (.int v3), some (.int r), some (.int (-1)), some (.int 9), some (.int 0)]) eX8_company_42 rfl (Nat.le_of_ble_eq_true rfl) rfl ?_
  exact a_weak [true, true, true, true, true, true, true, true] rfl rfl hv
theorem bX8_company_44 {l : Launch} {G : GT} {d : Nat} {M : Mem} {R : Option Value → Mem → Prop} {v1 : Int32} {v2 : Int32} {v3 : Int32} {v4 : Int32} {v5 : Int32} {v6 : Int32} {v7 : Int32} (hv : (v4 < v7 → (0 ≤ v5 → (v3 = 0 → R (some (.int v5)) M) ∧ (¬ (v3 = 0) → R (some (.int v6)) M)) ∧ (¬ (0 ≤ v5) → R (some (.int (-1000000005))) M)) ∧ (¬ (v4 < v7) → ((v7 &&& (v4 ^^^ (-1))) = 0 → Tr l G (d + 3) mX8_bits [.int v7] M (kI fun q M' => At l G (d + 4) mX8_company 66 [some (.ref (G.1 100)), some (.int v1), some (.int v2), some (.int v3), some (.int v4), some (.int v5), some (.int v6), some (.int v7)] [.int q] M' R)) ∧ (¬ ((v7 &&& (v4 ^^^ (-1))) = 0) → At l G (d + 4) mX8_company 44 [some (.ref (G.1 100)), some (.int v1), some (.int v2), some (.int v3), some (.int v4), some (.int v5), some (.int v6), some (.int (v7 + 1))] [] M R))) : At l G (d + 4) mX8_company 44 [some (.ref (G.1 100)), some (.int v1), some (.int v2), some (.int v3), some (.int v4), some (.int v5), some (.int v6), some (.int v7)] [] M R := by
  refine a_iload eX8_company_44 rfl ?_
  refine a_iload eX8_company_46 rfl ?_
  refine a_icmp_gt (tgt := 99) eX8_company_48 (by decide) (fun w1 => ?_) (fun w1 => ?_)
  · replace hv := hv.1 w1
    refine a_iload eX8_company_99 rfl ?_
    refine a_if_ge (tgt := 109) eX8_company_101 (by decide) (fun w2 => ?_) (fun w2 => ?_)
    · replace hv := hv.1 w2
      refine a_iload_n eX8_company_109 rfl ?_
      refine a_if_ne (tgt := 118) eX8_company_110 (by decide) (fun w3 => ?_) (fun w3 => ?_)
      · replace hv := hv.2 w3
        refine a_iload eX8_company_118 rfl ?_
        exact a_iret eX8_company_120 rfl rfl hv
      · replace hv := hv.1 w3
        refine a_iload eX8_company_113 rfl ?_
        refine a_goto (tgt := 120) eX8_company_115 (by decide) ?_
        exact a_iret eX8_company_120 rfl rfl hv
    · replace hv := hv.2 w2
      refine a_ldc eX8_company_104 kc_X8_67 ?_
      refine a_goto (tgt := 120) eX8_company_106 (by decide) ?_
      exact a_iret eX8_company_120 rfl rfl hv
  · replace hv := hv.2 w1
    refine a_iload eX8_company_51 rfl ?_
    refine a_iload eX8_company_53 rfl ?_
    refine a_iconst (v := (-1)) eX8_company_55 (by decide) ?_
    refine a_ixor eX8_company_56 ?_
    refine a_iand eX8_company_57 ?_
    refine a_if_ne (tgt := 93) eX8_company_58 (by decide) (fun w4 => ?_) (fun w4 => ?_)
    · replace hv := hv.2 w4
      refine a_iinc (v := 1) (vs' := [some (.ref (G.1 100)), some (.int v1), some (.int v2), some (.int v3), some (.int v4), some (.int v5), some (.int v6), some (.int (v7 + 1))]) eX8_company_93 rfl rfl (by decide) rfl ?_
      refine a_goto (tgt := 44) eX8_company_96 (by decide) ?_
      exact a_weak [true, true, true, true, true, true, true, true] rfl rfl hv
    · replace hv := hv.1 w4
      refine a_iload eX8_company_61 rfl ?_
      exact qX8_102 rfl eX8_company_63 (Nat.le_of_ble_eq_true rfl) (tr_I [true, true, true, true, true, true, true, true] rfl rfl hv)
theorem bX8_company_66 {l : Launch} {G : GT} {d : Nat} {M : Mem} {R : Option Value → Mem → Prop} {v1 : Int32} {v2 : Int32} {v3 : Int32} {v4 : Int32} {v5 : Int32} {v6 : Int32} {v7 : Int32} {r : Int32} (hv : (v6 ≤ r → At l G (d + 4) mX8_company 44 [some (.ref (G.1 100)), some (.int v1), some (.int v2), some (.int v3), some (.int v4), some (.int v5), some (.int v6), some (.int (v7 + 1))] [] M R) ∧ (¬ (v6 ≤ r) → Tr l G (d + 3) mX8_journeyOf [.ref (G.1 100), .int v7, .int v1, .int v2] M (kI fun q M' => At l G (d + 4) mX8_company 79 [some (.ref (G.1 100)), some (.int v1), some (.int v2), some (.int v3), some (.int v4), some (.int v5), some (.int v6), some (.int v7)] [.int q] M' R))) : At l G (d + 4) mX8_company 66 [some (.ref (G.1 100)), some (.int v1), some (.int v2), some (.int v3), some (.int v4), some (.int v5), some (.int v6), some (.int v7)] [.int r] M R := by
  refine a_iload eX8_company_66 rfl ?_
  refine a_icmp_ge (tgt := 93) eX8_company_68 (by decide) (fun w1 => ?_) (fun w1 => ?_)
  · replace hv := hv.1 w1
    refine a_iinc (v := 1) (vs' := [some (.ref (G.1 100)), some (.int v1), some (.int v2), some (.int v3), some (.int v4), some (.int v5), some (.int v6), some (.int (v7 + 1))]) eX8_company_93 rfl rfl (by decide) rfl ?_
    refine a_goto (tgt := 44) eX8_company_96 (by decide) ?_
    exact a_weak [true, true, true, true, true, true, true, true] rfl rfl hv
  · replace hv := hv.2 w1
    refine a_aload_n eX8_company_71 rfl ?_
    refine a_iload eX8_company_72 rfl ?_
    refine a_iload_n eX8_company_74 rfl ?_
    refine a_iload_n eX8_company_75 rfl ?_
    exact qX8_215 rfl eX8_company_76 (Nat.le_of_ble_eq_true rfl) (tr_I [true, true, true, true, true, true, true, true] rfl rfl hv)
theorem bX8_company_79 {l : Launch} {G : GT} {d : Nat} {M : Mem} {R : Option Value → Mem → Prop} {v1 : Int32} {v2 : Int32} {v3 : Int32} {v4 : Int32} {v5 : Int32} {v6 : Int32} {v7 : Int32} {r : Int32} (hv : (r < 0 → At l G (d + 4) mX8_company 44 [some (.ref (G.1 100)), some (.int v1), some (.int v2), some (.int v3), some (.int v4), some (.int v5), some (.int v6), some (.int (v7 + 1))] [] M R) ∧ (¬ (r < 0) → Tr l G (d + 3) mX8_bits [.int v7] M (kI fun q M' => At l G (d + 4) mX8_company 91 [some (.ref (G.1 100)), some (.int v1), some (.int v2), some (.int v3), some (.int v4), some (.int v7), none, some (.int v7)] [.int q] M' R))) : At l G (d + 4) mX8_company 79 [some (.ref (G.1 100)), some (.int v1), some (.int v2), some (.int v3), some (.int v4), some (.int v5), some (.int v6), some (.int v7)] [.int r] M R := by
  refine a_if_lt (tgt := 93) eX8_company_79 (by decide) (fun w1 => ?_) (fun w1 => ?_)
  · replace hv := hv.1 w1
    refine a_iinc (v := 1) (vs' := [some (.ref (G.1 100)), some (.int v1), some (.int v2), some (.int v3), some (.int v4), some (.int v5), some (.int v6), some (.int (v7 + 1))]) eX8_company_93 rfl rfl (by decide) rfl ?_
    refine a_goto (tgt := 44) eX8_company_96 (by decide) ?_
    exact a_weak [true, true, true, true, true, true, true, true] rfl rfl hv
  · replace hv := hv.2 w1
    refine a_iload eX8_company_82 rfl ?_
    refine a_istore (vs' := [some (.ref (G.1 100)), some (.int v1), some (.int v2), some (.int v3), some (.int v4), some (.int v7), some (.int v6), some (.int v7)]) eX8_company_84 rfl (Nat.le_of_ble_eq_true rfl) rfl ?_
    refine a_iload eX8_company_86 rfl ?_
    exact qX8_102 rfl eX8_company_88 (Nat.le_of_ble_eq_true rfl) (tr_I [true, true, true, true, true, true, false, true] rfl rfl hv)
theorem bX8_company_91 {l : Launch} {G : GT} {d : Nat} {M : Mem} {R : Option Value → Mem → Prop} {v1 : Int32} {v2 : Int32} {v3 : Int32} {v4 : Int32} {v5 : Int32} {v7 : Int32} {r : Int32} (hv : At l G (d + 4) mX8_company 44 [some (.ref (G.1 100)), some (.int v1), some (.int v2), some (.int v3), some (.int v4), some (.int v5), some (.int r), some (.int (v7 + 1))] [] M R) : At l G (d + 4) mX8_company 91 [some (.ref (G.1 100)), some (.int v1), some (.int v2), some (.int v3), some (.int v4), some (.int v5), none, some (.int v7)] [.int r] M R := by
  refine a_istore (vs' := [some (.ref (G.1 100)), some (.int v1), some (.int v2), some (.int v3), some (.int v4), some (.int v5), some (.int r), some (.int v7)]) eX8_company_91 rfl (Nat.le_of_ble_eq_true rfl) rfl ?_
  refine a_iinc (v := 1) (vs' := [some (.ref (G.1 100)), some (.int v1), some (.int v2), some (.int v3), some (.int v4), some (.int v5), some (.int r), some (.int (v7 + 1))]) eX8_company_93 rfl rfl (by decide) rfl ?_
  refine a_goto (tgt := 44) eX8_company_96 (by decide) ?_
  exact a_weak [true, true, true, true, true, true, true, true] rfl rfl hv
theorem tX8_regiment {l : Launch} {G : GT} {d : Nat} {M : Mem} {R : Option Value → Mem → Prop} {v1 : Int32} (hv : (0 ≤ v1 → (v1 ≤ 1 → Tr l G (d + 3) mX8_borne [.ref (G.1 100), .int (((1 : Int32) <<< ((M 101 0) &&& 31)) - 1)] M (kI fun q M' => At l G (d + 4) mX8_regiment 21 [some (.ref (G.1 100)), some (.int v1), none, none, none, none] [.int q] M' R)) ∧ (¬ (v1 ≤ 1) → R (some (.int (-1000000001))) M)) ∧ (¬ (0 ≤ v1) → R (some (.int (-1000000001))) M)) : Tr l G (d + 4) mX8_regiment [.ref (G.1 100), .int v1] M R := by
  refine Tr.of rfl (Nat.le_of_ble_eq_true rfl) (vs := [some (.ref (G.1 100)), some (.int v1), none, none, none, none]) rfl ?_
  refine a_iload_n eX8_regiment_0 rfl ?_
  refine a_i2l eX8_regiment_1 ?_
  refine a_lconsti 0 eX8_regiment_2 (by decide) ?_
  refine a_lconsti 1 eX8_regiment_3 (by decide) ?_
  refine qX8_68 rfl eX8_regiment_4 (Nat.le_of_ble_eq_true rfl) ?_
  refine in_isIn (v := v1) (lo := 0) (hi := 1) ⟨fun w1 => ⟨fun w2 => ret_i ?_, fun w2 => ret_i ?_⟩, fun w1 => ret_i ?_⟩
  · replace hv := (hv.1 w1).1 w2
    refine a_if_ne (tgt := 13) eX8_regiment_7 (by decide) (fun _ => ?_) (fun h => absurd h (by decide))
    refine a_aload_n eX8_regiment_13 rfl ?_
    refine a_aload_n eX8_regiment_14 rfl ?_
    refine qX8_200 rfl eX8_regiment_15 (Nat.le_of_ble_eq_true rfl) ?_
    refine Tr.of rfl (Nat.le_of_ble_eq_true rfl) (vs := [some (.ref (G.1 100))]) rfl ?_
    refine a_iconst (v := 1) eX8_everybody_0 (by decide) ?_
    refine a_aload_n eX8_everybody_1 rfl ?_
    refine gX8_0 eX8_everybody_2 fl_X8_7 ?_
    refine a_iconst (v := 0) eX8_everybody_5 (by decide) ?_
    refine a_ialdc 0 eX8_everybody_6 sA101 kA101 (by decide) (by decide) ?_
    refine a_ishl eX8_everybody_7 ?_
    refine a_iconst (v := 1) eX8_everybody_8 (by decide) ?_
    refine a_isub eX8_everybody_9 ?_
    refine a_iret eX8_everybody_10 rfl rfl (ret_i ?_)
    exact qX8_203 rfl eX8_regiment_18 (Nat.le_of_ble_eq_true rfl) (tr_I [true, true, false, false, false, false] rfl rfl hv)
  · replace hv := (hv.1 w1).2 w2
    refine a_if_ne (tgt := 13) eX8_regiment_7 (by decide) (fun h => absurd h (by decide)) (fun _ => ?_)
    refine a_ldc eX8_regiment_10 kc_X8_117 ?_
    exact a_iret eX8_regiment_12 rfl rfl hv
  · replace hv := hv.2 w1
    refine a_if_ne (tgt := 13) eX8_regiment_7 (by decide) (fun h => absurd h (by decide)) (fun _ => ?_)
    refine a_ldc eX8_regiment_10 kc_X8_117 ?_
    exact a_iret eX8_regiment_12 rfl rfl hv
theorem bX8_regiment_21 {l : Launch} {G : GT} {d : Nat} {M : Mem} {R : Option Value → Mem → Prop} {v1 : Int32} {r : Int32} (hv : At l G (d + 4) mX8_regiment 31 [some (.ref (G.1 100)), some (.int v1), some (.int r), some (.int 0), some (.int 9), some (.int 0)] [] M R) : At l G (d + 4) mX8_regiment 21 [some (.ref (G.1 100)), some (.int v1), none, none, none, none] [.int r] M R := by
  refine a_istore_n (vs' := [some (.ref (G.1 100)), some (.int v1), some (.int r), none, none, none]) eX8_regiment_21 rfl (Nat.le_of_ble_eq_true rfl) rfl ?_
  refine a_iconst (v := 0) eX8_regiment_22 (by decide) ?_
  refine a_istore_n (vs' := [some (.ref (G.1 100)), some (.int v1), some (.int r), some (.int 0), none, none]) eX8_regiment_23 rfl (Nat.le_of_ble_eq_true rfl) rfl ?_
  refine a_bipush (v := 9) eX8_regiment_24 (by decide) ?_
  refine a_istore (vs' := [some (.ref (G.1 100)), some (.int v1), some (.int r), some (.int 0), some (.int 9), none]) eX8_regiment_26 rfl (Nat.le_of_ble_eq_true rfl) rfl ?_
  refine a_iconst (v := 0) eX8_regiment_28 (by decide) ?_
  refine a_istore (vs' := [some (.ref (G.1 100)), some (.int v1), some (.int r), some (.int 0), some (.int 9), some (.int 0)]) eX8_regiment_29 rfl (Nat.le_of_ble_eq_true rfl) rfl ?_
  exact a_weak [true, true, true, true, true, true] rfl rfl hv
theorem bX8_regiment_31 {l : Launch} {G : GT} {d : Nat} {M : Mem} {R : Option Value → Mem → Prop} {v1 : Int32} {v2 : Int32} {v3 : Int32} {v4 : Int32} {v5 : Int32} (hv : ((((1 : Int32) <<< ((M 101 0) &&& 31)) - 1) < v5 → (v1 = 0 → R (some (.int v3)) M) ∧ (¬ (v1 = 0) → R (some (.int v4)) M)) ∧ (¬ ((((1 : Int32) <<< ((M 101 0) &&& 31)) - 1) < v5) → Tr l G (d + 3) mX8_bits [.int v5] M (kI fun q M' => At l G (d + 4) mX8_regiment 45 [some (.ref (G.1 100)), some (.int v1), some (.int v2), some (.int v3), some (.int v4), some (.int v5)] [.int q] M' R))) : At l G (d + 4) mX8_regiment 31 [some (.ref (G.1 100)), some (.int v1), some (.int v2), some (.int v3), some (.int v4), some (.int v5)] [] M R := by
  refine a_iload eX8_regiment_31 rfl ?_
  refine a_aload_n eX8_regiment_33 rfl ?_
  refine qX8_200 rfl eX8_regiment_34 (Nat.le_of_ble_eq_true rfl) ?_
  refine Tr.of rfl (Nat.le_of_ble_eq_true rfl) (vs := [some (.ref (G.1 100))]) rfl ?_
  refine a_iconst (v := 1) eX8_everybody_0 (by decide) ?_
  refine a_aload_n eX8_everybody_1 rfl ?_
  refine gX8_0 eX8_everybody_2 fl_X8_7 ?_
  refine a_iconst (v := 0) eX8_everybody_5 (by decide) ?_
  refine a_ialdc 0 eX8_everybody_6 sA101 kA101 (by decide) (by decide) ?_
  refine a_ishl eX8_everybody_7 ?_
  refine a_iconst (v := 1) eX8_everybody_8 (by decide) ?_
  refine a_isub eX8_everybody_9 ?_
  refine a_iret eX8_everybody_10 rfl rfl (ret_i ?_)
  refine a_icmp_gt (tgt := 76) eX8_regiment_37 (by decide) (fun w1 => ?_) (fun w1 => ?_)
  · replace hv := hv.1 w1
    refine a_iload_n eX8_regiment_76 rfl ?_
    refine a_if_ne (tgt := 84) eX8_regiment_77 (by decide) (fun w2 => ?_) (fun w2 => ?_)
    · replace hv := hv.2 w2
      refine a_iload eX8_regiment_84 rfl ?_
      exact a_iret eX8_regiment_86 rfl rfl hv
    · replace hv := hv.1 w2
      refine a_iload_n eX8_regiment_80 rfl ?_
      refine a_goto (tgt := 86) eX8_regiment_81 (by decide) ?_
      exact a_iret eX8_regiment_86 rfl rfl hv
  · replace hv := hv.2 w1
    refine a_iload eX8_regiment_40 rfl ?_
    exact qX8_102 rfl eX8_regiment_42 (Nat.le_of_ble_eq_true rfl) (tr_I [true, true, true, true, true, true] rfl rfl hv)
theorem bX8_regiment_45 {l : Launch} {G : GT} {d : Nat} {M : Mem} {R : Option Value → Mem → Prop} {v1 : Int32} {v2 : Int32} {v3 : Int32} {v4 : Int32} {v5 : Int32} {r : Int32} (hv : (v4 ≤ r → At l G (d + 4) mX8_regiment 31 [some (.ref (G.1 100)), some (.int v1), some (.int v2), some (.int v3), some (.int v4), some (.int (v5 + 1))] [] M R) ∧ (¬ (v4 ≤ r) → Tr l G (d + 3) mX8_borne [.ref (G.1 100), .int v5] M (kI fun q M' => At l G (d + 4) mX8_regiment 56 [some (.ref (G.1 100)), some (.int v1), some (.int v2), some (.int v3), some (.int v4), some (.int v5)] [.int q] M' R))) : At l G (d + 4) mX8_regiment 45 [some (.ref (G.1 100)), some (.int v1), some (.int v2), some (.int v3), some (.int v4), some (.int v5)] [.int r] M R := by
  refine a_iload eX8_regiment_45 rfl ?_
  refine a_icmp_ge (tgt := 70) eX8_regiment_47 (by decide) (fun w1 => ?_) (fun w1 => ?_)
  · replace hv := hv.1 w1
    refine a_iinc (v := 1) (vs' := [some (.ref (G.1 100)), some (.int v1), some (.int v2), some (.int v3), some (.int v4), some (.int (v5 + 1))]) eX8_regiment_70 rfl rfl (by decide) rfl ?_
    refine a_goto (tgt := 31) eX8_regiment_73 (by decide) ?_
    exact a_weak [true, true, true, true, true, true] rfl rfl hv
  · replace hv := hv.2 w1
    refine a_aload_n eX8_regiment_50 rfl ?_
    refine a_iload eX8_regiment_51 rfl ?_
    exact qX8_203 rfl eX8_regiment_53 (Nat.le_of_ble_eq_true rfl) (tr_I [true, true, true, true, true, true] rfl rfl hv)
theorem bX8_regiment_56 {l : Launch} {G : GT} {d : Nat} {M : Mem} {R : Option Value → Mem → Prop} {v1 : Int32} {v2 : Int32} {v3 : Int32} {v4 : Int32} {v5 : Int32} {r : Int32} (hv : (r = v2 → Tr l G (d + 3) mX8_bits [.int v5] M (kI fun q M' => At l G (d + 4) mX8_regiment 68 [some (.ref (G.1 100)), some (.int v1), some (.int v2), some (.int v5), none, some (.int v5)] [.int q] M' R)) ∧ (¬ (r = v2) → At l G (d + 4) mX8_regiment 31 [some (.ref (G.1 100)), some (.int v1), some (.int v2), some (.int v3), some (.int v4), some (.int (v5 + 1))] [] M R)) : At l G (d + 4) mX8_regiment 56 [some (.ref (G.1 100)), some (.int v1), some (.int v2), some (.int v3), some (.int v4), some (.int v5)] [.int r] M R := by
  refine a_iload_n eX8_regiment_56 rfl ?_
  refine a_icmp_ne (tgt := 70) eX8_regiment_57 (by decide) (fun w1 => ?_) (fun w1 => ?_)
  · replace hv := hv.2 w1
    refine a_iinc (v := 1) (vs' := [some (.ref (G.1 100)), some (.int v1), some (.int v2), some (.int v3), some (.int v4), some (.int (v5 + 1))]) eX8_regiment_70 rfl rfl (by decide) rfl ?_
    refine a_goto (tgt := 31) eX8_regiment_73 (by decide) ?_
    exact a_weak [true, true, true, true, true, true] rfl rfl hv
  · replace hv := hv.1 w1
    refine a_iload eX8_regiment_60 rfl ?_
    refine a_istore_n (vs' := [some (.ref (G.1 100)), some (.int v1), some (.int v2), some (.int v5), some (.int v4), some (.int v5)]) eX8_regiment_62 rfl (Nat.le_of_ble_eq_true rfl) rfl ?_
    refine a_iload eX8_regiment_63 rfl ?_
    exact qX8_102 rfl eX8_regiment_65 (Nat.le_of_ble_eq_true rfl) (tr_I [true, true, true, true, false, true] rfl rfl hv)
theorem bX8_regiment_68 {l : Launch} {G : GT} {d : Nat} {M : Mem} {R : Option Value → Mem → Prop} {v1 : Int32} {v2 : Int32} {v3 : Int32} {v5 : Int32} {r : Int32} (hv : At l G (d + 4) mX8_regiment 31 [some (.ref (G.1 100)), some (.int v1), some (.int v2), some (.int v3), some (.int r), some (.int (v5 + 1))] [] M R) : At l G (d + 4) mX8_regiment 68 [some (.ref (G.1 100)), some (.int v1), some (.int v2), some (.int v3), none, some (.int v5)] [.int r] M R := by
  refine a_istore (vs' := [some (.ref (G.1 100)), some (.int v1), some (.int v2), some (.int v3), some (.int r), some (.int v5)]) eX8_regiment_68 rfl (Nat.le_of_ble_eq_true rfl) rfl ?_
  refine a_iinc (v := 1) (vs' := [some (.ref (G.1 100)), some (.int v1), some (.int v2), some (.int v3), some (.int r), some (.int (v5 + 1))]) eX8_regiment_70 rfl rfl (by decide) rfl ?_
  refine a_goto (tgt := 31) eX8_regiment_73 (by decide) ?_
  exact a_weak [true, true, true, true, true, true] rfl rfl hv
theorem tX8_dear {l : Launch} {G : GT} {d : Nat} {M : Mem} {R : Option Value → Mem → Prop} {v1 : Int32} (hv : (0 ≤ v1 → (v1 ≤ 1 → At l G (d + 4) mX8_dear 20 [some (.ref (G.1 100)), some (.int v1), some (.int (-1)), some (.int (-1)), some (.int 0), none] [] M R) ∧ (¬ (v1 ≤ 1) → R (some (.int (-1000000001))) M)) ∧ (¬ (0 ≤ v1) → R (some (.int (-1000000001))) M)) : Tr l G (d + 4) mX8_dear [.ref (G.1 100), .int v1] M R := by
  refine Tr.of rfl (Nat.le_of_ble_eq_true rfl) (vs := [some (.ref (G.1 100)), some (.int v1), none, none, none, none]) rfl ?_
  refine a_iload_n eX8_dear_0 rfl ?_
  refine a_i2l eX8_dear_1 ?_
  refine a_lconsti 0 eX8_dear_2 (by decide) ?_
  refine a_lconsti 1 eX8_dear_3 (by decide) ?_
  refine qX8_68 rfl eX8_dear_4 (Nat.le_of_ble_eq_true rfl) ?_
  refine in_isIn (v := v1) (lo := 0) (hi := 1) ⟨fun w1 => ⟨fun w2 => ret_i ?_, fun w2 => ret_i ?_⟩, fun w1 => ret_i ?_⟩
  · replace hv := (hv.1 w1).1 w2
    refine a_if_ne (tgt := 13) eX8_dear_7 (by decide) (fun _ => ?_) (fun h => absurd h (by decide))
    refine a_iconst (v := (-1)) eX8_dear_13 (by decide) ?_
    refine a_istore_n (vs' := [some (.ref (G.1 100)), some (.int v1), some (.int (-1)), none, none, none]) eX8_dear_14 rfl (Nat.le_of_ble_eq_true rfl) rfl ?_
    refine a_iconst (v := (-1)) eX8_dear_15 (by decide) ?_
    refine a_istore_n (vs' := [some (.ref (G.1 100)), some (.int v1), some (.int (-1)), some (.int (-1)), none, none]) eX8_dear_16 rfl (Nat.le_of_ble_eq_true rfl) rfl ?_
    refine a_iconst (v := 0) eX8_dear_17 (by decide) ?_
    refine a_istore (vs' := [some (.ref (G.1 100)), some (.int v1), some (.int (-1)), some (.int (-1)), some (.int 0), none]) eX8_dear_18 rfl (Nat.le_of_ble_eq_true rfl) rfl ?_
    exact a_weak [true, true, true, true, true, false] rfl rfl hv
  · replace hv := (hv.1 w1).2 w2
    refine a_if_ne (tgt := 13) eX8_dear_7 (by decide) (fun h => absurd h (by decide)) (fun _ => ?_)
    refine a_ldc eX8_dear_10 kc_X8_117 ?_
    exact a_iret eX8_dear_12 rfl rfl hv
  · replace hv := hv.2 w1
    refine a_if_ne (tgt := 13) eX8_dear_7 (by decide) (fun h => absurd h (by decide)) (fun _ => ?_)
    refine a_ldc eX8_dear_10 kc_X8_117 ?_
    exact a_iret eX8_dear_12 rfl rfl hv
theorem bX8_dear_20 {l : Launch} {G : GT} {d : Nat} {M : Mem} {R : Option Value → Mem → Prop} {v1 : Int32} {v2 : Int32} {v3 : Int32} {v4 : Int32} (hv : ((M 101 0) ≤ v4 → (0 ≤ v2 → (v1 = 0 → R (some (.int v2)) M) ∧ (¬ (v1 = 0) → R (some (.int v3)) M)) ∧ (¬ (0 ≤ v2) → R (some (.int (-1000000005))) M)) ∧ (¬ ((M 101 0) ≤ v4) → vp_in ((10 + (4 * v4)) + 3) 3084 ∧ Tr l G (d + 3) mX8_borne [.ref (G.1 100), .int ((((1 : Int32) <<< ((M 101 0) &&& 31)) - 1) &&& (((1 : Int32) <<< (v4 &&& 31)) ^^^ (-1)))] M (kI fun q M' => At l G (d + 4) mX8_dear 53 [some (.ref (G.1 100)), some (.int v1), some (.int v2), some (.int v3), some (.int v4), none] [.int q, .int (M 101 (ix ((10 + (4 * v4)) + 3)))] M' R))) : At l G (d + 4) mX8_dear 20 [some (.ref (G.1 100)), some (.int v1), some (.int v2), some (.int v3), some (.int v4), none] [] M R := by
  refine a_iload eX8_dear_20 rfl ?_
  refine a_aload_n eX8_dear_22 rfl ?_
  refine gX8_0 eX8_dear_23 fl_X8_7 ?_
  refine a_iconst (v := 0) eX8_dear_26 (by decide) ?_
  refine a_ialdc 0 eX8_dear_27 sA101 kA101 (by decide) (by decide) ?_
  refine a_icmp_ge (tgt := 93) eX8_dear_28 (by decide) (fun w1 => ?_) (fun w1 => ?_)
  · replace hv := hv.1 w1
    refine a_iload_n eX8_dear_93 rfl ?_
    refine a_if_ge (tgt := 102) eX8_dear_94 (by decide) (fun w2 => ?_) (fun w2 => ?_)
    · replace hv := hv.1 w2
      refine a_iload_n eX8_dear_102 rfl ?_
      refine a_if_ne (tgt := 110) eX8_dear_103 (by decide) (fun w3 => ?_) (fun w3 => ?_)
      · replace hv := hv.2 w3
        refine a_iload_n eX8_dear_110 rfl ?_
        exact a_iret eX8_dear_111 rfl rfl hv
      · replace hv := hv.1 w3
        refine a_iload_n eX8_dear_106 rfl ?_
        refine a_goto (tgt := 111) eX8_dear_107 (by decide) ?_
        exact a_iret eX8_dear_111 rfl rfl hv
    · replace hv := hv.2 w2
      refine a_ldc eX8_dear_97 kc_X8_67 ?_
      refine a_goto (tgt := 111) eX8_dear_99 (by decide) ?_
      exact a_iret eX8_dear_111 rfl rfl hv
  · replace hv := hv.2 w1
    refine a_aload_n eX8_dear_31 rfl ?_
    refine a_iload eX8_dear_32 rfl ?_
    refine a_iconst (v := 3) eX8_dear_34 (by decide) ?_
    refine qX8_86 rfl eX8_dear_35 (Nat.le_of_ble_eq_true rfl) ?_
    refine Tr.of rfl (Nat.le_of_ble_eq_true rfl) (vs := [some (.ref (G.1 100)), some (.int v4), some (.int 3)]) rfl ?_
    refine a_aload_n eX8_of_0 rfl ?_
    refine gX8_0 eX8_of_1 fl_X8_7 ?_
    refine a_bipush (v := 10) eX8_of_4 (by decide) ?_
    refine a_iconst (v := 4) eX8_of_6 (by decide) ?_
    refine a_iload_n eX8_of_7 rfl ?_
    refine a_imul eX8_of_8 ?_
    refine a_iadd eX8_of_9 ?_
    refine a_iload_n eX8_of_10 rfl ?_
    refine a_iadd eX8_of_11 ?_
    obtain ⟨h4, hv⟩ := hv
    refine a_iald eX8_of_12 sA101 kA101 h4 ?_
    refine a_iret eX8_of_13 rfl rfl (ret_i ?_)
    refine a_aload_n eX8_dear_38 rfl ?_
    refine a_aload_n eX8_dear_39 rfl ?_
    refine qX8_200 rfl eX8_dear_40 (Nat.le_of_ble_eq_true rfl) ?_
    refine Tr.of rfl (Nat.le_of_ble_eq_true rfl) (vs := [some (.ref (G.1 100))]) rfl ?_
    refine a_iconst (v := 1) eX8_everybody_0 (by decide) ?_
    refine a_aload_n eX8_everybody_1 rfl ?_
    refine gX8_0 eX8_everybody_2 fl_X8_7 ?_
    refine a_iconst (v := 0) eX8_everybody_5 (by decide) ?_
    refine a_ialdc 0 eX8_everybody_6 sA101 kA101 (by decide) (by decide) ?_
    refine a_ishl eX8_everybody_7 ?_
    refine a_iconst (v := 1) eX8_everybody_8 (by decide) ?_
    refine a_isub eX8_everybody_9 ?_
    refine a_iret eX8_everybody_10 rfl rfl (ret_i ?_)
    refine a_iconst (v := 1) eX8_dear_43 (by decide) ?_
    refine a_iload eX8_dear_44 rfl ?_
    refine a_ishl eX8_dear_46 ?_
    refine a_iconst (v := (-1)) eX8_dear_47 (by decide) ?_
    refine a_ixor eX8_dear_48 ?_
    refine a_iand eX8_dear_49 ?_
    exact qX8_203 rfl eX8_dear_50 (Nat.le_of_ble_eq_true rfl) (tr_I [true, true, true, true, true, false] rfl rfl hv)
theorem bX8_dear_53 {l : Launch} {G : GT} {d : Nat} {M : Mem} {R : Option Value → Mem → Prop} {v1 : Int32} {v2 : Int32} {v3 : Int32} {v4 : Int32} {r : Int32} {t1 : Int32} (hv : Tr l G (d + 3) mX8_bits [.int (t1 &&& (r ^^^ (-1)))] M (kI fun q M' => At l G (d + 4) mX8_dear 59 [some (.ref (G.1 100)), some (.int v1), some (.int v2), some (.int v3), some (.int v4), none] [.int q] M' R)) : At l G (d + 4) mX8_dear 53 [some (.ref (G.1 100)), some (.int v1), some (.int v2), some (.int v3), some (.int v4), none] [.int r, .int t1] M R := by
  refine a_iconst (v := (-1)) eX8_dear_53 (by decide) ?_
  refine a_ixor eX8_dear_54 ?_
  refine a_iand eX8_dear_55 ?_
  exact qX8_102 rfl eX8_dear_56 (Nat.le_of_ble_eq_true rfl) (tr_I [true, true, true, true, true, false] rfl rfl hv)
theorem bX8_dear_59 {l : Launch} {G : GT} {d : Nat} {M : Mem} {R : Option Value → Mem → Prop} {v1 : Int32} {v2 : Int32} {v3 : Int32} {v4 : Int32} {r : Int32} (hv : (r ≤ v3 → (r ≤ v3 → At l G (d + 4) mX8_dear 20 [some (.ref (G.1 100)), some (.int v1), some (.int v2), some (.int v3), some (.int (v4 + 1)), none] [] M R) ∧ (¬ (r ≤ v3) → At l G (d + 4) mX8_dear 20 [some (.ref (G.1 100)), some (.int v1), some (.int v2), some (.int r), some (.int (v4 + 1)), none] [] M R)) ∧ (¬ (r ≤ v3) → (r ≤ v3 → At l G (d + 4) mX8_dear 20 [some (.ref (G.1 100)), some (.int v1), some (.int v4), some (.int v3), some (.int (v4 + 1)), none] [] M R) ∧ (¬ (r ≤ v3) → At l G (d + 4) mX8_dear 20 [some (.ref (G.1 100)), some (.int v1), some (.int v4), some (.int r), some (.int (v4 + 1)), none] [] M R))) : At l G (d + 4) mX8_dear 59 [some (.ref (G.1 100)), some (.int v1), some (.int v2), some (.int v3), some (.int v4), none] [.int r] M R := by
  refine a_istore (vs' := [some (.ref (G.1 100)), some (.int v1), some (.int v2), some (.int v3), some (.int v4), some (.int r)]) eX8_dear_59 rfl (Nat.le_of_ble_eq_true rfl) rfl ?_
  refine a_iload eX8_dear_61 rfl ?_
  refine a_iload_n eX8_dear_63 rfl ?_
  refine a_icmp_le (tgt := 72) eX8_dear_64 (by decide) (fun w1 => ?_) (fun w1 => ?_)
  · replace hv := hv.1 w1
    refine a_iload_n eX8_dear_72 rfl ?_
    refine a_istore_n (vs' := [some (.ref (G.1 100)), some (.int v1), some (.int v2), some (.int v3), some (.int v4), some (.int r)]) eX8_dear_73 rfl (Nat.le_of_ble_eq_true rfl) rfl ?_
    refine a_iload eX8_dear_74 rfl ?_
    refine a_iload_n eX8_dear_76 rfl ?_
    refine a_icmp_le (tgt := 85) eX8_dear_77 (by decide) (fun w2 => ?_) (fun w2 => ?_)
    · replace hv := hv.1 w2
      refine a_iload_n eX8_dear_85 rfl ?_
      refine a_istore_n (vs' := [some (.ref (G.1 100)), some (.int v1), some (.int v2), some (.int v3), some (.int v4), some (.int r)]) eX8_dear_86 rfl (Nat.le_of_ble_eq_true rfl) rfl ?_
      refine a_iinc (v := 1) (vs' := [some (.ref (G.1 100)), some (.int v1), some (.int v2), some (.int v3), some (.int (v4 + 1)), some (.int r)]) eX8_dear_87 rfl rfl (by decide) rfl ?_
      refine a_goto (tgt := 20) eX8_dear_90 (by decide) ?_
      exact a_weak [true, true, true, true, true, false] rfl rfl hv
    · replace hv := hv.2 w2
      refine a_iload eX8_dear_80 rfl ?_
      refine a_goto (tgt := 86) eX8_dear_82 (by decide) ?_
      refine a_istore_n (vs' := [some (.ref (G.1 100)), some (.int v1), some (.int v2), some (.int r), some (.int v4), some (.int r)]) eX8_dear_86 rfl (Nat.le_of_ble_eq_true rfl) rfl ?_
      refine a_iinc (v := 1) (vs' := [some (.ref (G.1 100)), some (.int v1), some (.int v2), some (.int r), some (.int (v4 + 1)), some (.int r)]) eX8_dear_87 rfl rfl (by decide) rfl ?_
      refine a_goto (tgt := 20) eX8_dear_90 (by decide) ?_
      exact a_weak [true, true, true, true, true, false] rfl rfl hv
  · replace hv := hv.2 w1
    refine a_iload eX8_dear_67 rfl ?_
    refine a_goto (tgt := 73) eX8_dear_69 (by decide) ?_
    refine a_istore_n (vs' := [some (.ref (G.1 100)), some (.int v1), some (.int v4), some (.int v3), some (.int v4), some (.int r)]) eX8_dear_73 rfl (Nat.le_of_ble_eq_true rfl) rfl ?_
    refine a_iload eX8_dear_74 rfl ?_
    refine a_iload_n eX8_dear_76 rfl ?_
    refine a_icmp_le (tgt := 85) eX8_dear_77 (by decide) (fun w3 => ?_) (fun w3 => ?_)
    · replace hv := hv.1 w3
      refine a_iload_n eX8_dear_85 rfl ?_
      refine a_istore_n (vs' := [some (.ref (G.1 100)), some (.int v1), some (.int v4), some (.int v3), some (.int v4), some (.int r)]) eX8_dear_86 rfl (Nat.le_of_ble_eq_true rfl) rfl ?_
      refine a_iinc (v := 1) (vs' := [some (.ref (G.1 100)), some (.int v1), some (.int v4), some (.int v3), some (.int (v4 + 1)), some (.int r)]) eX8_dear_87 rfl rfl (by decide) rfl ?_
      refine a_goto (tgt := 20) eX8_dear_90 (by decide) ?_
      exact a_weak [true, true, true, true, true, false] rfl rfl hv
    · replace hv := hv.2 w3
      refine a_iload eX8_dear_80 rfl ?_
      refine a_goto (tgt := 86) eX8_dear_82 (by decide) ?_
      refine a_istore_n (vs' := [some (.ref (G.1 100)), some (.int v1), some (.int v4), some (.int r), some (.int v4), some (.int r)]) eX8_dear_86 rfl (Nat.le_of_ble_eq_true rfl) rfl ?_
      refine a_iinc (v := 1) (vs' := [some (.ref (G.1 100)), some (.int v1), some (.int v4), some (.int r), some (.int (v4 + 1)), some (.int r)]) eX8_dear_87 rfl rfl (by decide) rfl ?_
      refine a_goto (tgt := 20) eX8_dear_90 (by decide) ?_
      exact a_weak [true, true, true, true, true, false] rfl rfl hv
theorem tX8_laysBy {l : Launch} {G : GT} {d : Nat} {M : Mem} {R : Option Value → Mem → Prop}  (hv : At l G (d + 4) mX8_laysBy 2 [some (.ref (G.1 100)), some (.int 0)] [] M R) : Tr l G (d + 4) mX8_laysBy [.ref (G.1 100)] M R := by
  refine Tr.of rfl (Nat.le_of_ble_eq_true rfl) (vs := [some (.ref (G.1 100)), none]) rfl ?_
  refine a_iconst (v := 0) eX8_laysBy_0 (by decide) ?_
  refine a_istore_n (vs' := [some (.ref (G.1 100)), some (.int 0)]) eX8_laysBy_1 rfl (Nat.le_of_ble_eq_true rfl) rfl ?_
  exact a_weak [true, true] rfl rfl hv
theorem bX8_laysBy_2 {l : Launch} {G : GT} {d : Nat} {M : Mem} {R : Option Value → Mem → Prop} {v1 : Int32} (hv : (84 ≤ v1 → R none M) ∧ (¬ (84 ≤ v1) → vp_in v1 3084 ∧ vp_in v1 84 ∧ At l G (d + 4) mX8_laysBy 2 [some (.ref (G.1 100)), some (.int (v1 + 1))] [] (um M 113 (ix v1) (M 101 (ix v1))) R)) : At l G (d + 4) mX8_laysBy 2 [some (.ref (G.1 100)), some (.int v1)] [] M R := by
  refine a_iload_n eX8_laysBy_2 rfl ?_
  refine a_bipush (v := 84) eX8_laysBy_3 (by decide) ?_
  refine a_icmp_ge (tgt := 26) eX8_laysBy_5 (by decide) (fun w1 => ?_) (fun w1 => ?_)
  · replace hv := hv.1 w1
    exact a_vret eX8_laysBy_26 rfl hv
  · replace hv := hv.2 w1
    refine a_aload_n eX8_laysBy_8 rfl ?_
    refine gX8_13 eX8_laysBy_9 fl_X8_46 ?_
    refine a_iload_n eX8_laysBy_12 rfl ?_
    refine a_aload_n eX8_laysBy_13 rfl ?_
    refine gX8_0 eX8_laysBy_14 fl_X8_7 ?_
    refine a_iload_n eX8_laysBy_17 rfl ?_
    obtain ⟨h2, hv⟩ := hv
    refine a_iald eX8_laysBy_18 sA101 kA101 h2 ?_
    obtain ⟨h3, hv⟩ := hv
    refine a_iast eX8_laysBy_19 sA113 kA113 h3 ?_
    refine a_iinc (v := 1) (vs' := [some (.ref (G.1 100)), some (.int (v1 + 1))]) eX8_laysBy_20 rfl rfl (by decide) rfl ?_
    refine a_goto (tgt := 2) eX8_laysBy_23 (by decide) ?_
    exact a_weak [true, true] rfl rfl hv
theorem tX8_laysBack {l : Launch} {G : GT} {d : Nat} {M : Mem} {R : Option Value → Mem → Prop}  (hv : At l G (d + 4) mX8_laysBack 2 [some (.ref (G.1 100)), some (.int 0)] [] M R) : Tr l G (d + 4) mX8_laysBack [.ref (G.1 100)] M R := by
  refine Tr.of rfl (Nat.le_of_ble_eq_true rfl) (vs := [some (.ref (G.1 100)), none]) rfl ?_
  refine a_iconst (v := 0) eX8_laysBack_0 (by decide) ?_
  refine a_istore_n (vs' := [some (.ref (G.1 100)), some (.int 0)]) eX8_laysBack_1 rfl (Nat.le_of_ble_eq_true rfl) rfl ?_
  exact a_weak [true, true] rfl rfl hv
theorem bX8_laysBack_2 {l : Launch} {G : GT} {d : Nat} {M : Mem} {R : Option Value → Mem → Prop} {v1 : Int32} (hv : (84 ≤ v1 → R none M) ∧ (¬ (84 ≤ v1) → vp_in v1 84 ∧ vp_in v1 3084 ∧ At l G (d + 4) mX8_laysBack 2 [some (.ref (G.1 100)), some (.int (v1 + 1))] [] (um M 101 (ix v1) (M 113 (ix v1))) R)) : At l G (d + 4) mX8_laysBack 2 [some (.ref (G.1 100)), some (.int v1)] [] M R := by
  refine a_iload_n eX8_laysBack_2 rfl ?_
  refine a_bipush (v := 84) eX8_laysBack_3 (by decide) ?_
  refine a_icmp_ge (tgt := 26) eX8_laysBack_5 (by decide) (fun w1 => ?_) (fun w1 => ?_)
  · replace hv := hv.1 w1
    exact a_vret eX8_laysBack_26 rfl hv
  · replace hv := hv.2 w1
    refine a_aload_n eX8_laysBack_8 rfl ?_
    refine gX8_0 eX8_laysBack_9 fl_X8_7 ?_
    refine a_iload_n eX8_laysBack_12 rfl ?_
    refine a_aload_n eX8_laysBack_13 rfl ?_
    refine gX8_13 eX8_laysBack_14 fl_X8_46 ?_
    refine a_iload_n eX8_laysBack_17 rfl ?_
    obtain ⟨h2, hv⟩ := hv
    refine a_iald eX8_laysBack_18 sA113 kA113 h2 ?_
    obtain ⟨h3, hv⟩ := hv
    refine a_iast eX8_laysBack_19 sA101 kA101 h3 ?_
    refine a_iinc (v := 1) (vs' := [some (.ref (G.1 100)), some (.int (v1 + 1))]) eX8_laysBack_20 rfl rfl (by decide) rfl ?_
    refine a_goto (tgt := 2) eX8_laysBack_23 (by decide) ?_
    exact a_weak [true, true] rfl rfl hv
theorem tX8_behind {l : Launch} {G : GT} {d : Nat} {M : Mem} {R : Option Value → Mem → Prop} {v1 : Int32} {v2 : Int32} (hv : (0 ≤ v1 → (v1 ≤ 100 → (v2 < 0 → R (some (.int (-1000000001))) M) ∧ (¬ (v2 < 0) → (v2 ≤ 3 → Tr l G (d + 3) mX8_laysBy [.ref (G.1 100)] M (kV fun M' => At l G (d + 4) mX8_behind 38 [some (.ref (G.1 100)), some (.int v1), some (.int v2), none] [] M' R)) ∧ (¬ (v2 ≤ 3) → (0 ≤ (v2 - 4) → ((v2 - 4) ≤ ((M 101 0) - 1) → Tr l G (d + 3) mX8_laysBy [.ref (G.1 100)] M (kV fun M' => At l G (d + 4) mX8_behind 38 [some (.ref (G.1 100)), some (.int v1), some (.int v2), none] [] M' R)) ∧ (¬ ((v2 - 4) ≤ ((M 101 0) - 1)) → R (some (.int (-1000000001))) M)) ∧ (¬ (0 ≤ (v2 - 4)) → R (some (.int (-1000000001))) M)))) ∧ (¬ (v1 ≤ 100) → R (some (.int (-1000000001))) M)) ∧ (¬ (0 ≤ v1) → R (some (.int (-1000000001))) M)) : Tr l G (d + 4) mX8_behind [.ref (G.1 100), .int v1, .int v2] M R := by
  refine Tr.of rfl (Nat.le_of_ble_eq_true rfl) (vs := [some (.ref (G.1 100)), some (.int v1), some (.int v2), none]) rfl ?_
  refine a_iload_n eX8_behind_0 rfl ?_
  refine a_i2l eX8_behind_1 ?_
  refine a_lconsti 0 eX8_behind_2 (by decide) ?_
  refine a_ldc2i 100 eX8_behind_3 kl_X8_165 (by decide) ?_
  refine qX8_68 rfl eX8_behind_6 (Nat.le_of_ble_eq_true rfl) ?_
  refine in_isIn (v := v1) (lo := 0) (hi := 100) ⟨fun w5 => ⟨fun w6 => ret_i ?_, fun w6 => ret_i ?_⟩, fun w5 => ret_i ?_⟩
  · replace hv := (hv.1 w5).1 w6
    refine a_if_eq (tgt := 31) eX8_behind_9 (by decide) (fun h => absurd h (by decide)) (fun _ => ?_)
    refine a_iload_n eX8_behind_12 rfl ?_
    refine a_if_lt (tgt := 31) eX8_behind_13 (by decide) (fun w1 => ?_) (fun w1 => ?_)
    · replace hv := hv.1 w1
      refine a_ldc eX8_behind_31 kc_X8_117 ?_
      exact a_iret eX8_behind_33 rfl rfl hv
    · replace hv := hv.2 w1
      refine a_iload_n eX8_behind_16 rfl ?_
      refine a_iconst (v := 3) eX8_behind_17 (by decide) ?_
      refine a_icmp_le (tgt := 34) eX8_behind_18 (by decide) (fun w2 => ?_) (fun w2 => ?_)
      · replace hv := hv.1 w2
        refine a_aload_n eX8_behind_34 rfl ?_
        exact qX8_222 rfl eX8_behind_35 (Nat.le_of_ble_eq_true rfl) (tr_V [true, true, true, false] rfl rfl hv)
      · replace hv := hv.2 w2
        refine a_aload_n eX8_behind_21 rfl ?_
        refine a_iload_n eX8_behind_22 rfl ?_
        refine a_iconst (v := 4) eX8_behind_23 (by decide) ?_
        refine a_isub eX8_behind_24 ?_
        refine qX8_123 rfl eX8_behind_25 (Nat.le_of_ble_eq_true rfl) ?_
        refine Tr.of rfl (Nat.le_of_ble_eq_true rfl) (vs := [some (.ref (G.1 100)), some (.int (v2 - 4))]) rfl ?_
        refine a_iload_n eX8_isOne_0 rfl ?_
        refine a_i2l eX8_isOne_1 ?_
        refine a_lconsti 0 eX8_isOne_2 (by decide) ?_
        refine a_aload_n eX8_isOne_3 rfl ?_
        refine gX8_0 eX8_isOne_4 fl_X8_7 ?_
        refine a_iconst (v := 0) eX8_isOne_7 (by decide) ?_
        refine a_ialdc 0 eX8_isOne_8 sA101 kA101 (by decide) (by decide) ?_
        refine a_iconst (v := 1) eX8_isOne_9 (by decide) ?_
        refine a_isub eX8_isOne_10 ?_
        refine a_i2l eX8_isOne_11 ?_
        refine qX8_68 rfl eX8_isOne_12 (Nat.le_of_ble_eq_true rfl) ?_
        refine in_isIn (v := v2 - 4) (lo := 0) (hi := (M 101 0) - 1) ⟨fun w3 => ⟨fun w4 => ret_i ?_, fun w4 => ret_i ?_⟩, fun w3 => ret_i ?_⟩
        · replace hv := (hv.1 w3).1 w4
          refine a_iret eX8_isOne_15 rfl rfl (ret_i ?_)
          refine a_if_ne (tgt := 34) eX8_behind_28 (by decide) (fun _ => ?_) (fun h => absurd h (by decide))
          refine a_aload_n eX8_behind_34 rfl ?_
          exact qX8_222 rfl eX8_behind_35 (Nat.le_of_ble_eq_true rfl) (tr_V [true, true, true, false] rfl rfl hv)
        · replace hv := (hv.1 w3).2 w4
          refine a_iret eX8_isOne_15 rfl rfl (ret_i ?_)
          refine a_if_ne (tgt := 34) eX8_behind_28 (by decide) (fun h => absurd h (by decide)) (fun _ => ?_)
          refine a_ldc eX8_behind_31 kc_X8_117 ?_
          exact a_iret eX8_behind_33 rfl rfl hv
        · replace hv := hv.2 w3
          refine a_iret eX8_isOne_15 rfl rfl (ret_i ?_)
          refine a_if_ne (tgt := 34) eX8_behind_28 (by decide) (fun h => absurd h (by decide)) (fun _ => ?_)
          refine a_ldc eX8_behind_31 kc_X8_117 ?_
          exact a_iret eX8_behind_33 rfl rfl hv
  · replace hv := (hv.1 w5).2 w6
    refine a_if_eq (tgt := 31) eX8_behind_9 (by decide) (fun _ => ?_) (fun h => absurd h (by decide))
    refine a_ldc eX8_behind_31 kc_X8_117 ?_
    exact a_iret eX8_behind_33 rfl rfl hv
  · replace hv := hv.2 w5
    refine a_if_eq (tgt := 31) eX8_behind_9 (by decide) (fun _ => ?_) (fun h => absurd h (by decide))
    refine a_ldc eX8_behind_31 kc_X8_117 ?_
    exact a_iret eX8_behind_33 rfl rfl hv
theorem bX8_behind_38 {l : Launch} {G : GT} {d : Nat} {M : Mem} {R : Option Value → Mem → Prop} {v1 : Int32} {v2 : Int32} (hv : Tr l G (d + 3) mX8_goesOnMany [.ref (G.1 100), .int v1] M (kV fun M' => At l G (d + 4) mX8_behind 43 [some (.ref (G.1 100)), none, some (.int v2), none] [] M' R)) : At l G (d + 4) mX8_behind 38 [some (.ref (G.1 100)), some (.int v1), some (.int v2), none] [] M R := by
  refine a_aload_n eX8_behind_38 rfl ?_
  refine a_iload_n eX8_behind_39 rfl ?_
  exact qX8_197 rfl eX8_behind_40 (Nat.le_of_ble_eq_true rfl) (tr_V [true, false, true, false] rfl rfl hv)
theorem bX8_behind_43 {l : Launch} {G : GT} {d : Nat} {M : Mem} {R : Option Value → Mem → Prop} {v2 : Int32} (hv : (3 ≤ v2 → (v2 = 3 → Tr l G (d + 3) mX8_known [.ref (G.1 100)] M (kI fun q M' => At l G (d + 4) mX8_behind 69 [some (.ref (G.1 100)), none, none, none] [.int q] M' R)) ∧ (¬ (v2 = 3) → vp_in ((10 + (4 * (v2 - 4))) + 1) 3084 ∧ Tr l G (d + 3) mX8_laysBack [.ref (G.1 100)] M (kV fun M' => At l G (d + 4) mX8_behind 85 [none, none, none, some (.int (M 101 (ix ((10 + (4 * (v2 - 4))) + 1))))] [] M' R))) ∧ (¬ (3 ≤ v2) → vp_in (6 + v2) 3084 ∧ Tr l G (d + 3) mX8_laysBack [.ref (G.1 100)] M (kV fun M' => At l G (d + 4) mX8_behind 85 [none, none, none, some (.int (M 101 (ix (6 + v2))))] [] M' R))) : At l G (d + 4) mX8_behind 43 [some (.ref (G.1 100)), none, some (.int v2), none] [] M R := by
  refine a_iload_n eX8_behind_43 rfl ?_
  refine a_iconst (v := 3) eX8_behind_44 (by decide) ?_
  refine a_icmp_ge (tgt := 60) eX8_behind_45 (by decide) (fun w1 => ?_) (fun w1 => ?_)
  · replace hv := hv.1 w1
    refine a_iload_n eX8_behind_60 rfl ?_
    refine a_iconst (v := 3) eX8_behind_61 (by decide) ?_
    refine a_icmp_ne (tgt := 72) eX8_behind_62 (by decide) (fun w2 => ?_) (fun w2 => ?_)
    · replace hv := hv.2 w2
      refine a_aload_n eX8_behind_72 rfl ?_
      refine a_iload_n eX8_behind_73 rfl ?_
      refine a_iconst (v := 4) eX8_behind_74 (by decide) ?_
      refine a_isub eX8_behind_75 ?_
      refine a_iconst (v := 1) eX8_behind_76 (by decide) ?_
      refine qX8_86 rfl eX8_behind_77 (Nat.le_of_ble_eq_true rfl) ?_
      refine Tr.of rfl (Nat.le_of_ble_eq_true rfl) (vs := [some (.ref (G.1 100)), some (.int (v2 - 4)), some (.int 1)]) rfl ?_
      refine a_aload_n eX8_of_0 rfl ?_
      refine gX8_0 eX8_of_1 fl_X8_7 ?_
      refine a_bipush (v := 10) eX8_of_4 (by decide) ?_
      refine a_iconst (v := 4) eX8_of_6 (by decide) ?_
      refine a_iload_n eX8_of_7 rfl ?_
      refine a_imul eX8_of_8 ?_
      refine a_iadd eX8_of_9 ?_
      refine a_iload_n eX8_of_10 rfl ?_
      refine a_iadd eX8_of_11 ?_
      obtain ⟨h3, hv⟩ := hv
      refine a_iald eX8_of_12 sA101 kA101 h3 ?_
      refine a_iret eX8_of_13 rfl rfl (ret_i ?_)
      refine a_istore_n (vs' := [some (.ref (G.1 100)), none, some (.int v2), some (.int (M 101 (ix ((10 + (4 * (v2 - 4))) + 1))))]) eX8_behind_80 rfl (Nat.le_of_ble_eq_true rfl) rfl ?_
      refine a_aload_n eX8_behind_81 rfl ?_
      exact qX8_225 rfl eX8_behind_82 (Nat.le_of_ble_eq_true rfl) (tr_V [false, false, false, true] rfl rfl hv)
    · replace hv := hv.1 w2
      refine a_aload_n eX8_behind_65 rfl ?_
      exact qX8_206 rfl eX8_behind_66 (Nat.le_of_ble_eq_true rfl) (tr_I [true, false, false, false] rfl rfl hv)
  · replace hv := hv.2 w1
    refine a_aload_n eX8_behind_48 rfl ?_
    refine gX8_0 eX8_behind_49 fl_X8_7 ?_
    refine a_bipush (v := 6) eX8_behind_52 (by decide) ?_
    refine a_iload_n eX8_behind_54 rfl ?_
    refine a_iadd eX8_behind_55 ?_
    obtain ⟨h4, hv⟩ := hv
    refine a_iald eX8_behind_56 sA101 kA101 h4 ?_
    refine a_goto (tgt := 80) eX8_behind_57 (by decide) ?_
    refine a_istore_n (vs' := [some (.ref (G.1 100)), none, some (.int v2), some (.int (M 101 (ix (6 + v2))))]) eX8_behind_80 rfl (Nat.le_of_ble_eq_true rfl) rfl ?_
    refine a_aload_n eX8_behind_81 rfl ?_
    exact qX8_225 rfl eX8_behind_82 (Nat.le_of_ble_eq_true rfl) (tr_V [false, false, false, true] rfl rfl hv)
theorem bX8_behind_69 {l : Launch} {G : GT} {d : Nat} {M : Mem} {R : Option Value → Mem → Prop} {r : Int32} (hv : Tr l G (d + 3) mX8_laysBack [.ref (G.1 100)] M (kV fun M' => At l G (d + 4) mX8_behind 85 [none, none, none, some (.int r)] [] M' R)) : At l G (d + 4) mX8_behind 69 [some (.ref (G.1 100)), none, none, none] [.int r] M R := by
  refine a_goto (tgt := 80) eX8_behind_69 (by decide) ?_
  refine a_istore_n (vs' := [some (.ref (G.1 100)), none, none, some (.int r)]) eX8_behind_80 rfl (Nat.le_of_ble_eq_true rfl) rfl ?_
  refine a_aload_n eX8_behind_81 rfl ?_
  exact qX8_225 rfl eX8_behind_82 (Nat.le_of_ble_eq_true rfl) (tr_V [false, false, false, true] rfl rfl hv)
theorem bX8_behind_85 {l : Launch} {G : GT} {d : Nat} {M : Mem} {R : Option Value → Mem → Prop} {v3 : Int32} (hv : R (some (.int v3)) M) : At l G (d + 4) mX8_behind 85 [none, none, none, some (.int v3)] [] M R := by
  refine a_iload_n eX8_behind_85 rfl ?_
  exact a_iret eX8_behind_86 rfl rfl hv
theorem tX8_arrives {l : Launch} {G : GT} {d : Nat} {M : Mem} {R : Option Value → Mem → Prop} {v1 : Int32} {v2 : Int32} (hv : (0 ≤ v1 → (v1 ≤ ((M 101 0) - 1) → (0 ≤ v2 → (v2 ≤ 9 → Tr l G (d + 3) mX8_laysBy [.ref (G.1 100)] M (kV fun M' => At l G (d + 4) mX8_arrives 22 [some (.ref (G.1 100)), some (.int v1), some (.int v2), none] [] M' R)) ∧ (¬ (v2 ≤ 9) → R (some (.int (-1000000001))) M)) ∧ (¬ (0 ≤ v2) → R (some (.int (-1000000001))) M)) ∧ (¬ (v1 ≤ ((M 101 0) - 1)) → R (some (.int (-1000000001))) M)) ∧ (¬ (0 ≤ v1) → R (some (.int (-1000000001))) M)) : Tr l G (d + 4) mX8_arrives [.ref (G.1 100), .int v1, .int v2] M R := by
  refine Tr.of rfl (Nat.le_of_ble_eq_true rfl) (vs := [some (.ref (G.1 100)), some (.int v1), some (.int v2), none]) rfl ?_
  refine a_aload_n eX8_arrives_0 rfl ?_
  refine a_iload_n eX8_arrives_1 rfl ?_
  refine qX8_123 rfl eX8_arrives_2 (Nat.le_of_ble_eq_true rfl) ?_
  refine Tr.of rfl (Nat.le_of_ble_eq_true rfl) (vs := [some (.ref (G.1 100)), some (.int v1)]) rfl ?_
  refine a_iload_n eX8_isOne_0 rfl ?_
  refine a_i2l eX8_isOne_1 ?_
  refine a_lconsti 0 eX8_isOne_2 (by decide) ?_
  refine a_aload_n eX8_isOne_3 rfl ?_
  refine gX8_0 eX8_isOne_4 fl_X8_7 ?_
  refine a_iconst (v := 0) eX8_isOne_7 (by decide) ?_
  refine a_ialdc 0 eX8_isOne_8 sA101 kA101 (by decide) (by decide) ?_
  refine a_iconst (v := 1) eX8_isOne_9 (by decide) ?_
  refine a_isub eX8_isOne_10 ?_
  refine a_i2l eX8_isOne_11 ?_
  refine qX8_68 rfl eX8_isOne_12 (Nat.le_of_ble_eq_true rfl) ?_
  refine in_isIn (v := v1) (lo := 0) (hi := (M 101 0) - 1) ⟨fun w3 => ⟨fun w4 => ret_i ?_, fun w4 => ret_i ?_⟩, fun w3 => ret_i ?_⟩
  · replace hv := (hv.1 w3).1 w4
    refine a_iret eX8_isOne_15 rfl rfl (ret_i ?_)
    refine a_if_eq (tgt := 15) eX8_arrives_5 (by decide) (fun h => absurd h (by decide)) (fun _ => ?_)
    refine a_iload_n eX8_arrives_8 rfl ?_
    refine qX8_111 rfl eX8_arrives_9 (Nat.le_of_ble_eq_true rfl) ?_
    refine Tr.of rfl (Nat.le_of_ble_eq_true rfl) (vs := [some (.int v2)]) rfl ?_
    refine a_iload_n eX8_isPlace_0 rfl ?_
    refine a_i2l eX8_isPlace_1 ?_
    refine a_lconsti 0 eX8_isPlace_2 (by decide) ?_
    refine a_ldc2i 9 eX8_isPlace_3 kl_X8_73 (by decide) ?_
    refine qX8_68 rfl eX8_isPlace_6 (Nat.le_of_ble_eq_true rfl) ?_
    refine in_isIn (v := v2) (lo := 0) (hi := 9) ⟨fun w1 => ⟨fun w2 => ret_i ?_, fun w2 => ret_i ?_⟩, fun w1 => ret_i ?_⟩
    · replace hv := (hv.1 w1).1 w2
      refine a_iret eX8_isPlace_9 rfl rfl (ret_i ?_)
      refine a_if_ne (tgt := 18) eX8_arrives_12 (by decide) (fun _ => ?_) (fun h => absurd h (by decide))
      refine a_aload_n eX8_arrives_18 rfl ?_
      exact qX8_222 rfl eX8_arrives_19 (Nat.le_of_ble_eq_true rfl) (tr_V [true, true, true, false] rfl rfl hv)
    · replace hv := (hv.1 w1).2 w2
      refine a_iret eX8_isPlace_9 rfl rfl (ret_i ?_)
      refine a_if_ne (tgt := 18) eX8_arrives_12 (by decide) (fun h => absurd h (by decide)) (fun _ => ?_)
      refine a_ldc eX8_arrives_15 kc_X8_117 ?_
      exact a_iret eX8_arrives_17 rfl rfl hv
    · replace hv := hv.2 w1
      refine a_iret eX8_isPlace_9 rfl rfl (ret_i ?_)
      refine a_if_ne (tgt := 18) eX8_arrives_12 (by decide) (fun h => absurd h (by decide)) (fun _ => ?_)
      refine a_ldc eX8_arrives_15 kc_X8_117 ?_
      exact a_iret eX8_arrives_17 rfl rfl hv
  · replace hv := (hv.1 w3).2 w4
    refine a_iret eX8_isOne_15 rfl rfl (ret_i ?_)
    refine a_if_eq (tgt := 15) eX8_arrives_5 (by decide) (fun _ => ?_) (fun h => absurd h (by decide))
    refine a_ldc eX8_arrives_15 kc_X8_117 ?_
    exact a_iret eX8_arrives_17 rfl rfl hv
  · replace hv := hv.2 w3
    refine a_iret eX8_isOne_15 rfl rfl (ret_i ?_)
    refine a_if_eq (tgt := 15) eX8_arrives_5 (by decide) (fun _ => ?_) (fun h => absurd h (by decide))
    refine a_ldc eX8_arrives_15 kc_X8_117 ?_
    exact a_iret eX8_arrives_17 rfl rfl hv
theorem bX8_arrives_22 {l : Launch} {G : GT} {d : Nat} {M : Mem} {R : Option Value → Mem → Prop} {v1 : Int32} {v2 : Int32} (hv : At l G (d + 4) mX8_arrives 24 [some (.ref (G.1 100)), some (.int v1), some (.int v2), some (.int 0)] [] M R) : At l G (d + 4) mX8_arrives 22 [some (.ref (G.1 100)), some (.int v1), some (.int v2), none] [] M R := by
  refine a_iconst (v := 0) eX8_arrives_22 (by decide) ?_
  refine a_istore_n (vs' := [some (.ref (G.1 100)), some (.int v1), some (.int v2), some (.int 0)]) eX8_arrives_23 rfl (Nat.le_of_ble_eq_true rfl) rfl ?_
  exact a_weak [true, true, true, true] rfl rfl hv
theorem bX8_arrives_24 {l : Launch} {G : GT} {d : Nat} {M : Mem} {R : Option Value → Mem → Prop} {v1 : Int32} {v2 : Int32} {v3 : Int32} (hv : (200 < v3 → Tr l G (d + 3) mX8_laysBack [.ref (G.1 100)] M (kV fun M' => At l G (d + 4) mX8_arrives 55 [none, none, none, some (.int v3)] [] M' R)) ∧ (¬ (200 < v3) → vp_in ((10 + (4 * v1)) + 1) 3084 ∧ ((M 101 (ix ((10 + (4 * v1)) + 1))) = v2 → Tr l G (d + 3) mX8_laysBack [.ref (G.1 100)] M (kV fun M' => At l G (d + 4) mX8_arrives 55 [none, none, none, some (.int v3)] [] M' R)) ∧ (¬ ((M 101 (ix ((10 + (4 * v1)) + 1))) = v2) → Tr l G (d + 3) mX8_goesOn [.ref (G.1 100)] M (kV fun M' => At l G (d + 4) mX8_arrives 45 [some (.ref (G.1 100)), some (.int v1), some (.int v2), some (.int v3)] [] M' R)))) : At l G (d + 4) mX8_arrives 24 [some (.ref (G.1 100)), some (.int v1), some (.int v2), some (.int v3)] [] M R := by
  refine a_iload_n eX8_arrives_24 rfl ?_
  refine a_sipush (v := 200) eX8_arrives_25 (by decide) ?_
  refine a_icmp_gt (tgt := 51) eX8_arrives_28 (by decide) (fun w1 => ?_) (fun w1 => ?_)
  · replace hv := hv.1 w1
    refine a_aload_n eX8_arrives_51 rfl ?_
    exact qX8_225 rfl eX8_arrives_52 (Nat.le_of_ble_eq_true rfl) (tr_V [false, false, false, true] rfl rfl hv)
  · replace hv := hv.2 w1
    refine a_aload_n eX8_arrives_31 rfl ?_
    refine a_iload_n eX8_arrives_32 rfl ?_
    refine a_iconst (v := 1) eX8_arrives_33 (by decide) ?_
    refine qX8_86 rfl eX8_arrives_34 (Nat.le_of_ble_eq_true rfl) ?_
    refine Tr.of rfl (Nat.le_of_ble_eq_true rfl) (vs := [some (.ref (G.1 100)), some (.int v1), some (.int 1)]) rfl ?_
    refine a_aload_n eX8_of_0 rfl ?_
    refine gX8_0 eX8_of_1 fl_X8_7 ?_
    refine a_bipush (v := 10) eX8_of_4 (by decide) ?_
    refine a_iconst (v := 4) eX8_of_6 (by decide) ?_
    refine a_iload_n eX8_of_7 rfl ?_
    refine a_imul eX8_of_8 ?_
    refine a_iadd eX8_of_9 ?_
    refine a_iload_n eX8_of_10 rfl ?_
    refine a_iadd eX8_of_11 ?_
    obtain ⟨h2, hv⟩ := hv
    refine a_iald eX8_of_12 sA101 kA101 h2 ?_
    refine a_iret eX8_of_13 rfl rfl (ret_i ?_)
    refine a_iload_n eX8_arrives_37 rfl ?_
    refine a_icmp_eq (tgt := 51) eX8_arrives_38 (by decide) (fun w3 => ?_) (fun w3 => ?_)
    · replace hv := hv.1 w3
      refine a_aload_n eX8_arrives_51 rfl ?_
      exact qX8_225 rfl eX8_arrives_52 (Nat.le_of_ble_eq_true rfl) (tr_V [false, false, false, true] rfl rfl hv)
    · replace hv := hv.2 w3
      refine a_aload_n eX8_arrives_41 rfl ?_
      exact qX8_194 rfl eX8_arrives_42 (Nat.le_of_ble_eq_true rfl) (tr_V [true, true, true, true] rfl rfl hv)
theorem bX8_arrives_45 {l : Launch} {G : GT} {d : Nat} {M : Mem} {R : Option Value → Mem → Prop} {v1 : Int32} {v2 : Int32} {v3 : Int32} (hv : At l G (d + 4) mX8_arrives 24 [some (.ref (G.1 100)), some (.int v1), some (.int v2), some (.int (v3 + 1))] [] M R) : At l G (d + 4) mX8_arrives 45 [some (.ref (G.1 100)), some (.int v1), some (.int v2), some (.int v3)] [] M R := by
  refine a_iinc (v := 1) (vs' := [some (.ref (G.1 100)), some (.int v1), some (.int v2), some (.int (v3 + 1))]) eX8_arrives_45 rfl rfl (by decide) rfl ?_
  refine a_goto (tgt := 24) eX8_arrives_48 (by decide) ?_
  exact a_weak [true, true, true, true] rfl rfl hv
theorem bX8_arrives_55 {l : Launch} {G : GT} {d : Nat} {M : Mem} {R : Option Value → Mem → Prop} {v3 : Int32} (hv : (200 < v3 → R (some (.int (-1000000005))) M) ∧ (¬ (200 < v3) → R (some (.int v3)) M)) : At l G (d + 4) mX8_arrives 55 [none, none, none, some (.int v3)] [] M R := by
  refine a_iload_n eX8_arrives_55 rfl ?_
  refine a_sipush (v := 200) eX8_arrives_56 (by decide) ?_
  refine a_icmp_gt (tgt := 66) eX8_arrives_59 (by decide) (fun w1 => ?_) (fun w1 => ?_)
  · replace hv := hv.1 w1
    refine a_ldc eX8_arrives_66 kc_X8_67 ?_
    exact a_iret eX8_arrives_68 rfl rfl hv
  · replace hv := hv.2 w1
    refine a_iload_n eX8_arrives_62 rfl ?_
    refine a_goto (tgt := 68) eX8_arrives_63 (by decide) ?_
    exact a_iret eX8_arrives_68 rfl rfl hv
theorem tX8_inks {l : Launch} {G : GT} {d : Nat} {M : Mem} {R : Option Value → Mem → Prop} {v1 : Int32} {v2 : Int32} {v3 : Int32} (hv : (0 ≤ v1 → (v1 ≤ ((M 101 0) - 1) → (1 ≤ v2 → (v2 ≤ 60 → (0 ≤ v3 → (v3 ≤ 1 → Tr l G (d + 3) mX8_laysBy [.ref (G.1 100)] M (kV fun M' => At l G (d + 4) mX8_inks 23 [some (.ref (G.1 100)), some (.int v1), some (.int v2), some (.int v3), none, none, none, none] [] M' R)) ∧ (¬ (v3 ≤ 1) → R (some (.int (-1000000001))) M)) ∧ (¬ (0 ≤ v3) → R (some (.int (-1000000001))) M)) ∧ (¬ (v2 ≤ 60) → R (some (.int (-1000000001))) M)) ∧ (¬ (1 ≤ v2) → R (some (.int (-1000000001))) M)) ∧ (¬ (v1 ≤ ((M 101 0) - 1)) → R (some (.int (-1000000001))) M)) ∧ (¬ (0 ≤ v1) → R (some (.int (-1000000001))) M)) : Tr l G (d + 4) mX8_inks [.ref (G.1 100), .int v1, .int v2, .int v3] M R := by
  refine Tr.of rfl (Nat.le_of_ble_eq_true rfl) (vs := [some (.ref (G.1 100)), some (.int v1), some (.int v2), some (.int v3), none, none, none, none]) rfl ?_
  refine a_aload_n eX8_inks_0 rfl ?_
  refine a_iload_n eX8_inks_1 rfl ?_
  refine qX8_123 rfl eX8_inks_2 (Nat.le_of_ble_eq_true rfl) ?_
  refine Tr.of rfl (Nat.le_of_ble_eq_true rfl) (vs := [some (.ref (G.1 100)), some (.int v1)]) rfl ?_
  refine a_iload_n eX8_isOne_0 rfl ?_
  refine a_i2l eX8_isOne_1 ?_
  refine a_lconsti 0 eX8_isOne_2 (by decide) ?_
  refine a_aload_n eX8_isOne_3 rfl ?_
  refine gX8_0 eX8_isOne_4 fl_X8_7 ?_
  refine a_iconst (v := 0) eX8_isOne_7 (by decide) ?_
  refine a_ialdc 0 eX8_isOne_8 sA101 kA101 (by decide) (by decide) ?_
  refine a_iconst (v := 1) eX8_isOne_9 (by decide) ?_
  refine a_isub eX8_isOne_10 ?_
  refine a_i2l eX8_isOne_11 ?_
  refine qX8_68 rfl eX8_isOne_12 (Nat.le_of_ble_eq_true rfl) ?_
  refine in_isIn (v := v1) (lo := 0) (hi := (M 101 0) - 1) ⟨fun w5 => ⟨fun w6 => ret_i ?_, fun w6 => ret_i ?_⟩, fun w5 => ret_i ?_⟩
  · replace hv := (hv.1 w5).1 w6
    refine a_iret eX8_isOne_15 rfl rfl (ret_i ?_)
    refine a_if_eq (tgt := 16) eX8_inks_5 (by decide) (fun h => absurd h (by decide)) (fun _ => ?_)
    refine a_iload_n eX8_inks_8 rfl ?_
    refine a_iload_n eX8_inks_9 rfl ?_
    refine qX8_230 rfl eX8_inks_10 (Nat.le_of_ble_eq_true rfl) ?_
    refine Tr.of rfl (Nat.le_of_ble_eq_true rfl) (vs := [some (.int v2), some (.int v3)]) rfl ?_
    refine a_iload_n eX8_isAsked_0 rfl ?_
    refine a_i2l eX8_isAsked_1 ?_
    refine a_lconsti 1 eX8_isAsked_2 (by decide) ?_
    refine a_ldc2i 60 eX8_isAsked_3 kl_X8_228 (by decide) ?_
    refine qX8_68 rfl eX8_isAsked_6 (Nat.le_of_ble_eq_true rfl) ?_
    refine in_isIn (v := v2) (lo := 1) (hi := 60) ⟨fun w3 => ⟨fun w4 => ret_i ?_, fun w4 => ret_i ?_⟩, fun w3 => ret_i ?_⟩
    · replace hv := (hv.1 w3).1 w4
      refine a_if_eq (tgt := 26) eX8_isAsked_9 (by decide) (fun h => absurd h (by decide)) (fun _ => ?_)
      refine a_iload_n eX8_isAsked_12 rfl ?_
      refine a_i2l eX8_isAsked_13 ?_
      refine a_lconsti 0 eX8_isAsked_14 (by decide) ?_
      refine a_lconsti 1 eX8_isAsked_15 (by decide) ?_
      refine qX8_68 rfl eX8_isAsked_16 (Nat.le_of_ble_eq_true rfl) ?_
      refine in_isIn (v := v3) (lo := 0) (hi := 1) ⟨fun w1 => ⟨fun w2 => ret_i ?_, fun w2 => ret_i ?_⟩, fun w1 => ret_i ?_⟩
      · replace hv := (hv.1 w1).1 w2
        refine a_if_eq (tgt := 26) eX8_isAsked_19 (by decide) (fun h => absurd h (by decide)) (fun _ => ?_)
        refine a_iconst (v := 1) eX8_isAsked_22 (by decide) ?_
        refine a_goto (tgt := 27) eX8_isAsked_23 (by decide) ?_
        refine a_iret eX8_isAsked_27 rfl rfl (ret_i ?_)
        refine a_if_ne (tgt := 19) eX8_inks_13 (by decide) (fun _ => ?_) (fun h => absurd h (by decide))
        refine a_aload_n eX8_inks_19 rfl ?_
        exact qX8_222 rfl eX8_inks_20 (Nat.le_of_ble_eq_true rfl) (tr_V [true, true, true, true, false, false, false, false] rfl rfl hv)
      · replace hv := (hv.1 w1).2 w2
        refine a_if_eq (tgt := 26) eX8_isAsked_19 (by decide) (fun _ => ?_) (fun h => absurd h (by decide))
        refine a_iconst (v := 0) eX8_isAsked_26 (by decide) ?_
        refine a_iret eX8_isAsked_27 rfl rfl (ret_i ?_)
        refine a_if_ne (tgt := 19) eX8_inks_13 (by decide) (fun h => absurd h (by decide)) (fun _ => ?_)
        refine a_ldc eX8_inks_16 kc_X8_117 ?_
        exact a_iret eX8_inks_18 rfl rfl hv
      · replace hv := hv.2 w1
        refine a_if_eq (tgt := 26) eX8_isAsked_19 (by decide) (fun _ => ?_) (fun h => absurd h (by decide))
        refine a_iconst (v := 0) eX8_isAsked_26 (by decide) ?_
        refine a_iret eX8_isAsked_27 rfl rfl (ret_i ?_)
        refine a_if_ne (tgt := 19) eX8_inks_13 (by decide) (fun h => absurd h (by decide)) (fun _ => ?_)
        refine a_ldc eX8_inks_16 kc_X8_117 ?_
        exact a_iret eX8_inks_18 rfl rfl hv
    · replace hv := (hv.1 w3).2 w4
      refine a_if_eq (tgt := 26) eX8_isAsked_9 (by decide) (fun _ => ?_) (fun h => absurd h (by decide))
      refine a_iconst (v := 0) eX8_isAsked_26 (by decide) ?_
      refine a_iret eX8_isAsked_27 rfl rfl (ret_i ?_)
      refine a_if_ne (tgt := 19) eX8_inks_13 (by decide) (fun h => absurd h (by decide)) (fun _ => ?_)
      refine a_ldc eX8_inks_16 kc_X8_117 ?_
      exact a_iret eX8_inks_18 rfl rfl hv
    · replace hv := hv.2 w3
      refine a_if_eq (tgt := 26) eX8_isAsked_9 (by decide) (fun _ => ?_) (fun h => absurd h (by decide))
      refine a_iconst (v := 0) eX8_isAsked_26 (by decide) ?_
      refine a_iret eX8_isAsked_27 rfl rfl (ret_i ?_)
      refine a_if_ne (tgt := 19) eX8_inks_13 (by decide) (fun h => absurd h (by decide)) (fun _ => ?_)
      refine a_ldc eX8_inks_16 kc_X8_117 ?_
      exact a_iret eX8_inks_18 rfl rfl hv
  · replace hv := (hv.1 w5).2 w6
    refine a_iret eX8_isOne_15 rfl rfl (ret_i ?_)
    refine a_if_eq (tgt := 16) eX8_inks_5 (by decide) (fun _ => ?_) (fun h => absurd h (by decide))
    refine a_ldc eX8_inks_16 kc_X8_117 ?_
    exact a_iret eX8_inks_18 rfl rfl hv
  · replace hv := hv.2 w5
    refine a_iret eX8_isOne_15 rfl rfl (ret_i ?_)
    refine a_if_eq (tgt := 16) eX8_inks_5 (by decide) (fun _ => ?_) (fun h => absurd h (by decide))
    refine a_ldc eX8_inks_16 kc_X8_117 ?_
    exact a_iret eX8_inks_18 rfl rfl hv
theorem bX8_inks_23 {l : Launch} {G : GT} {d : Nat} {M : Mem} {R : Option Value → Mem → Prop} {v1 : Int32} {v2 : Int32} {v3 : Int32} (hv : At l G (d + 4) mX8_inks 32 [some (.ref (G.1 100)), some (.int v1), some (.int v2), some (.int v3), some (.int (-1)), some (.int (-1)), some (.int 0), none] [] M R) : At l G (d + 4) mX8_inks 23 [some (.ref (G.1 100)), some (.int v1), some (.int v2), some (.int v3), none, none, none, none] [] M R := by
  refine a_iconst (v := (-1)) eX8_inks_23 (by decide) ?_
  refine a_istore (vs' := [some (.ref (G.1 100)), some (.int v1), some (.int v2), some (.int v3), some (.int (-1)), none, none, none]) eX8_inks_24 rfl (Nat.le_of_ble_eq_true rfl) rfl ?_
  refine a_iconst (v := (-1)) eX8_inks_26 (by decide) ?_
  refine a_istore (vs' := [some (.ref (G.1 100)), some (.int v1), some (.int v2), some (.int v3), some (.int (-1)), some (.int (-1)), none, none]) eX8_inks_27 rfl (Nat.le_of_ble_eq_true rfl) rfl ?_
  refine a_iconst (v := 0) eX8_inks_29 (by decide) ?_
  refine a_istore (vs' := [some (.ref (G.1 100)), some (.int v1), some (.int v2), some (.int v3), some (.int (-1)), some (.int (-1)), some (.int 0), none]) eX8_inks_30 rfl (Nat.le_of_ble_eq_true rfl) rfl ?_
  exact a_weak [true, true, true, true, true, true, true, false] rfl rfl hv
theorem bX8_inks_32 {l : Launch} {G : GT} {d : Nat} {M : Mem} {R : Option Value → Mem → Prop} {v1 : Int32} {v2 : Int32} {v3 : Int32} {v4 : Int32} {v5 : Int32} {v6 : Int32} (hv : ((M 101 3) ≤ v6 → (0 ≤ v4 → (v3 = 0 → R (some (.int v4)) M) ∧ (¬ (v3 = 0) → R (some (.int v5)) M)) ∧ (¬ (0 ≤ v4) → R (some (.int (-1000000005))) M)) ∧ (¬ ((M 101 3) ≤ v6) → vp_in ((10 + (4 * v1)) + 3) 3084 ∧ vp_in ((10 + (4 * v1)) + 3) 3084 ∧ ∀ M6 : Mem, M6 = um M 101 (ix ((10 + (4 * v1)) + 3)) ((M 101 (ix ((10 + (4 * v1)) + 3))) ||| ((1 : Int32) <<< (v6 &&& 31))) → Tr l G (d + 3) mX8_goesOnMany [.ref (G.1 100), .int v2] M6 (kV fun M' => At l G (d + 4) mX8_inks 65 [some (.ref (G.1 100)), some (.int v1), some (.int v2), some (.int v3), some (.int v4), some (.int v5), some (.int v6), none] [] M' R))) : At l G (d + 4) mX8_inks 32 [some (.ref (G.1 100)), some (.int v1), some (.int v2), some (.int v3), some (.int v4), some (.int v5), some (.int v6), none] [] M R := by
  refine a_iload eX8_inks_32 rfl ?_
  refine a_aload_n eX8_inks_34 rfl ?_
  refine gX8_0 eX8_inks_35 fl_X8_7 ?_
  refine a_iconst (v := 3) eX8_inks_38 (by decide) ?_
  refine a_ialdc 3 eX8_inks_39 sA101 kA101 (by decide) (by decide) ?_
  refine a_icmp_ge (tgt := 116) eX8_inks_40 (by decide) (fun w1 => ?_) (fun w1 => ?_)
  · replace hv := hv.1 w1
    refine a_iload eX8_inks_116 rfl ?_
    refine a_if_ge (tgt := 126) eX8_inks_118 (by decide) (fun w2 => ?_) (fun w2 => ?_)
    · replace hv := hv.1 w2
      refine a_iload_n eX8_inks_126 rfl ?_
      refine a_if_ne (tgt := 135) eX8_inks_127 (by decide) (fun w3 => ?_) (fun w3 => ?_)
      · replace hv := hv.2 w3
        refine a_iload eX8_inks_135 rfl ?_
        exact a_iret eX8_inks_137 rfl rfl hv
      · replace hv := hv.1 w3
        refine a_iload eX8_inks_130 rfl ?_
        refine a_goto (tgt := 137) eX8_inks_132 (by decide) ?_
        exact a_iret eX8_inks_137 rfl rfl hv
    · replace hv := hv.2 w2
      refine a_ldc eX8_inks_121 kc_X8_67 ?_
      refine a_goto (tgt := 137) eX8_inks_123 (by decide) ?_
      exact a_iret eX8_inks_137 rfl rfl hv
  · replace hv := hv.2 w1
    refine a_aload_n eX8_inks_43 rfl ?_
    refine a_iload_n eX8_inks_44 rfl ?_
    refine a_iconst (v := 3) eX8_inks_45 (by decide) ?_
    refine a_aload_n eX8_inks_46 rfl ?_
    refine a_iload_n eX8_inks_47 rfl ?_
    refine a_iconst (v := 3) eX8_inks_48 (by decide) ?_
    refine qX8_86 rfl eX8_inks_49 (Nat.le_of_ble_eq_true rfl) ?_
    refine Tr.of rfl (Nat.le_of_ble_eq_true rfl) (vs := [some (.ref (G.1 100)), some (.int v1), some (.int 3)]) rfl ?_
    refine a_aload_n eX8_of_0 rfl ?_
    refine gX8_0 eX8_of_1 fl_X8_7 ?_
    refine a_bipush (v := 10) eX8_of_4 (by decide) ?_
    refine a_iconst (v := 4) eX8_of_6 (by decide) ?_
    refine a_iload_n eX8_of_7 rfl ?_
    refine a_imul eX8_of_8 ?_
    refine a_iadd eX8_of_9 ?_
    refine a_iload_n eX8_of_10 rfl ?_
    refine a_iadd eX8_of_11 ?_
    obtain ⟨h4, hv⟩ := hv
    refine a_iald eX8_of_12 sA101 kA101 h4 ?_
    refine a_iret eX8_of_13 rfl rfl (ret_i ?_)
    refine a_iconst (v := 1) eX8_inks_52 (by decide) ?_
    refine a_iload eX8_inks_53 rfl ?_
    refine a_ishl eX8_inks_55 ?_
    refine a_ior eX8_inks_56 ?_
    refine qX8_105 rfl eX8_inks_57 (Nat.le_of_ble_eq_true rfl) ?_
    refine Tr.of rfl (Nat.le_of_ble_eq_true rfl) (vs := [some (.ref (G.1 100)), some (.int v1), some (.int 3), some (.int ((M 101 (ix ((10 + (4 * v1)) + 3))) ||| ((1 : Int32) <<< (v6 &&& 31))))]) rfl ?_
    refine a_aload_n eX8_sets_0 rfl ?_
    refine gX8_0 eX8_sets_1 fl_X8_7 ?_
    refine a_bipush (v := 10) eX8_sets_4 (by decide) ?_
    refine a_iconst (v := 4) eX8_sets_6 (by decide) ?_
    refine a_iload_n eX8_sets_7 rfl ?_
    refine a_imul eX8_sets_8 ?_
    refine a_iadd eX8_sets_9 ?_
    refine a_iload_n eX8_sets_10 rfl ?_
    refine a_iadd eX8_sets_11 ?_
    refine a_iload_n eX8_sets_12 rfl ?_
    obtain ⟨h5, hv⟩ := hv
    refine a_iast eX8_sets_13 sA101 kA101 h5 ?_
    refine a_nm (fun M6 eM6 => ?_)
    replace hv := hv M6 eM6
    refine a_vret eX8_sets_14 rfl (ret_v ?_)
    refine a_aload_n eX8_inks_60 rfl ?_
    refine a_iload_n eX8_inks_61 rfl ?_
    exact qX8_197 rfl eX8_inks_62 (Nat.le_of_ble_eq_true rfl) (tr_V [true, true, true, true, true, true, true, false] rfl rfl hv)
theorem bX8_inks_65 {l : Launch} {G : GT} {d : Nat} {M : Mem} {R : Option Value → Mem → Prop} {v1 : Int32} {v2 : Int32} {v3 : Int32} {v4 : Int32} {v5 : Int32} {v6 : Int32} (hv : Tr l G (d + 3) mX8_laysBack [.ref (G.1 100)] M (kV fun M' => At l G (d + 4) mX8_inks 78 [some (.ref (G.1 100)), some (.int v1), some (.int v2), some (.int v3), some (.int v4), some (.int v5), some (.int v6), some (.int (M 101 6))] [] M' R)) : At l G (d + 4) mX8_inks 65 [some (.ref (G.1 100)), some (.int v1), some (.int v2), some (.int v3), some (.int v4), some (.int v5), some (.int v6), none] [] M R := by
  refine a_aload_n eX8_inks_65 rfl ?_
  refine gX8_0 eX8_inks_66 fl_X8_7 ?_
  refine a_bipush (v := 6) eX8_inks_69 (by decide) ?_
  refine a_ialdc 6 eX8_inks_71 sA101 kA101 (by decide) (by decide) ?_
  refine a_istore (vs' := [some (.ref (G.1 100)), some (.int v1), some (.int v2), some (.int v3), some (.int v4), some (.int v5), some (.int v6), some (.int (M 101 6))]) eX8_inks_72 rfl (Nat.le_of_ble_eq_true rfl) rfl ?_
  refine a_aload_n eX8_inks_74 rfl ?_
  exact qX8_225 rfl eX8_inks_75 (Nat.le_of_ble_eq_true rfl) (tr_V [true, true, true, true, true, true, true, true] rfl rfl hv)
theorem bX8_inks_78 {l : Launch} {G : GT} {d : Nat} {M : Mem} {R : Option Value → Mem → Prop} {v1 : Int32} {v2 : Int32} {v3 : Int32} {v4 : Int32} {v5 : Int32} {v6 : Int32} {v7 : Int32} (hv : (v7 ≤ v5 → (v7 ≤ v5 → At l G (d + 4) mX8_inks 32 [some (.ref (G.1 100)), some (.int v1), some (.int v2), some (.int v3), some (.int v4), some (.int v5), some (.int (v6 + 1)), none] [] M R) ∧ (¬ (v7 ≤ v5) → At l G (d + 4) mX8_inks 32 [some (.ref (G.1 100)), some (.int v1), some (.int v2), some (.int v3), some (.int v4), some (.int v7), some (.int (v6 + 1)), none] [] M R)) ∧ (¬ (v7 ≤ v5) → (v7 ≤ v5 → At l G (d + 4) mX8_inks 32 [some (.ref (G.1 100)), some (.int v1), some (.int v2), some (.int v3), some (.int v6), some (.int v5), some (.int (v6 + 1)), none] [] M R) ∧ (¬ (v7 ≤ v5) → At l G (d + 4) mX8_inks 32 [some (.ref (G.1 100)), some (.int v1), some (.int v2), some (.int v3), some (.int v6), some (.int v7), some (.int (v6 + 1)), none] [] M R))) : At l G (d + 4) mX8_inks 78 [some (.ref (G.1 100)), some (.int v1), some (.int v2), some (.int v3), some (.int v4), some (.int v5), some (.int v6), some (.int v7)] [] M R := by
  refine a_iload eX8_inks_78 rfl ?_
  refine a_iload eX8_inks_80 rfl ?_
  refine a_icmp_le (tgt := 90) eX8_inks_82 (by decide) (fun w1 => ?_) (fun w1 => ?_)
  · replace hv := hv.1 w1
    refine a_iload eX8_inks_90 rfl ?_
    refine a_istore (vs' := [some (.ref (G.1 100)), some (.int v1), some (.int v2), some (.int v3), some (.int v4), some (.int v5), some (.int v6), some (.int v7)]) eX8_inks_92 rfl (Nat.le_of_ble_eq_true rfl) rfl ?_
    refine a_iload eX8_inks_94 rfl ?_
    refine a_iload eX8_inks_96 rfl ?_
    refine a_icmp_le (tgt := 106) eX8_inks_98 (by decide) (fun w2 => ?_) (fun w2 => ?_)
    · replace hv := hv.1 w2
      refine a_iload eX8_inks_106 rfl ?_
      refine a_istore (vs' := [some (.ref (G.1 100)), some (.int v1), some (.int v2), some (.int v3), some (.int v4), some (.int v5), some (.int v6), some (.int v7)]) eX8_inks_108 rfl (Nat.le_of_ble_eq_true rfl) rfl ?_
      refine a_iinc (v := 1) (vs' := [some (.ref (G.1 100)), some (.int v1), some (.int v2), some (.int v3), some (.int v4), some (.int v5), some (.int (v6 + 1)), some (.int v7)]) eX8_inks_110 rfl rfl (by decide) rfl ?_
      refine a_goto (tgt := 32) eX8_inks_113 (by decide) ?_
      exact a_weak [true, true, true, true, true, true, true, false] rfl rfl hv
    · replace hv := hv.2 w2
      refine a_iload eX8_inks_101 rfl ?_
      refine a_goto (tgt := 108) eX8_inks_103 (by decide) ?_
      refine a_istore (vs' := [some (.ref (G.1 100)), some (.int v1), some (.int v2), some (.int v3), some (.int v4), some (.int v7), some (.int v6), some (.int v7)]) eX8_inks_108 rfl (Nat.le_of_ble_eq_true rfl) rfl ?_
      refine a_iinc (v := 1) (vs' := [some (.ref (G.1 100)), some (.int v1), some (.int v2), some (.int v3), some (.int v4), some (.int v7), some (.int (v6 + 1)), some (.int v7)]) eX8_inks_110 rfl rfl (by decide) rfl ?_
      refine a_goto (tgt := 32) eX8_inks_113 (by decide) ?_
      exact a_weak [true, true, true, true, true, true, true, false] rfl rfl hv
  · replace hv := hv.2 w1
    refine a_iload eX8_inks_85 rfl ?_
    refine a_goto (tgt := 92) eX8_inks_87 (by decide) ?_
    refine a_istore (vs' := [some (.ref (G.1 100)), some (.int v1), some (.int v2), some (.int v3), some (.int v6), some (.int v5), some (.int v6), some (.int v7)]) eX8_inks_92 rfl (Nat.le_of_ble_eq_true rfl) rfl ?_
    refine a_iload eX8_inks_94 rfl ?_
    refine a_iload eX8_inks_96 rfl ?_
    refine a_icmp_le (tgt := 106) eX8_inks_98 (by decide) (fun w3 => ?_) (fun w3 => ?_)
    · replace hv := hv.1 w3
      refine a_iload eX8_inks_106 rfl ?_
      refine a_istore (vs' := [some (.ref (G.1 100)), some (.int v1), some (.int v2), some (.int v3), some (.int v6), some (.int v5), some (.int v6), some (.int v7)]) eX8_inks_108 rfl (Nat.le_of_ble_eq_true rfl) rfl ?_
      refine a_iinc (v := 1) (vs' := [some (.ref (G.1 100)), some (.int v1), some (.int v2), some (.int v3), some (.int v6), some (.int v5), some (.int (v6 + 1)), some (.int v7)]) eX8_inks_110 rfl rfl (by decide) rfl ?_
      refine a_goto (tgt := 32) eX8_inks_113 (by decide) ?_
      exact a_weak [true, true, true, true, true, true, true, false] rfl rfl hv
    · replace hv := hv.2 w3
      refine a_iload eX8_inks_101 rfl ?_
      refine a_goto (tgt := 108) eX8_inks_103 (by decide) ?_
      refine a_istore (vs' := [some (.ref (G.1 100)), some (.int v1), some (.int v2), some (.int v3), some (.int v6), some (.int v7), some (.int v6), some (.int v7)]) eX8_inks_108 rfl (Nat.le_of_ble_eq_true rfl) rfl ?_
      refine a_iinc (v := 1) (vs' := [some (.ref (G.1 100)), some (.int v1), some (.int v2), some (.int v3), some (.int v6), some (.int v7), some (.int (v6 + 1)), some (.int v7)]) eX8_inks_110 rfl rfl (by decide) rfl ?_
      refine a_goto (tgt := 32) eX8_inks_113 (by decide) ?_
      exact a_weak [true, true, true, true, true, true, true, false] rfl rfl hv
theorem tX8_becomes {l : Launch} {G : GT} {d : Nat} {M : Mem} {R : Option Value → Mem → Prop} {v1 : Int32} {v2 : Int32} {v3 : Int32} (hv : (0 ≤ v1 → (v1 ≤ ((M 101 0) - 1) → (1 ≤ v2 → (v2 ≤ 60 → (0 ≤ v3 → (v3 ≤ 1 → Tr l G (d + 3) mX8_laysBy [.ref (G.1 100)] M (kV fun M' => At l G (d + 4) mX8_becomes 23 [some (.ref (G.1 100)), some (.int v1), some (.int v2), some (.int v3), none, none, none, none] [] M' R)) ∧ (¬ (v3 ≤ 1) → R (some (.int (-1000000001))) M)) ∧ (¬ (0 ≤ v3) → R (some (.int (-1000000001))) M)) ∧ (¬ (v2 ≤ 60) → R (some (.int (-1000000001))) M)) ∧ (¬ (1 ≤ v2) → R (some (.int (-1000000001))) M)) ∧ (¬ (v1 ≤ ((M 101 0) - 1)) → R (some (.int (-1000000001))) M)) ∧ (¬ (0 ≤ v1) → R (some (.int (-1000000001))) M)) : Tr l G (d + 4) mX8_becomes [.ref (G.1 100), .int v1, .int v2, .int v3] M R := by
  refine Tr.of rfl (Nat.le_of_ble_eq_true rfl) (vs := [some (.ref (G.1 100)), some (.int v1), some (.int v2), some (.int v3), none, none, none, none]) rfl ?_
  refine a_aload_n eX8_becomes_0 rfl ?_
  refine a_iload_n eX8_becomes_1 rfl ?_
  refine qX8_123 rfl eX8_becomes_2 (Nat.le_of_ble_eq_true rfl) ?_
  refine Tr.of rfl (Nat.le_of_ble_eq_true rfl) (vs := [some (.ref (G.1 100)), some (.int v1)]) rfl ?_
  refine a_iload_n eX8_isOne_0 rfl ?_
  refine a_i2l eX8_isOne_1 ?_
  refine a_lconsti 0 eX8_isOne_2 (by decide) ?_
  refine a_aload_n eX8_isOne_3 rfl ?_
  refine gX8_0 eX8_isOne_4 fl_X8_7 ?_
  refine a_iconst (v := 0) eX8_isOne_7 (by decide) ?_
  refine a_ialdc 0 eX8_isOne_8 sA101 kA101 (by decide) (by decide) ?_
  refine a_iconst (v := 1) eX8_isOne_9 (by decide) ?_
  refine a_isub eX8_isOne_10 ?_
  refine a_i2l eX8_isOne_11 ?_
  refine qX8_68 rfl eX8_isOne_12 (Nat.le_of_ble_eq_true rfl) ?_
  refine in_isIn (v := v1) (lo := 0) (hi := (M 101 0) - 1) ⟨fun w5 => ⟨fun w6 => ret_i ?_, fun w6 => ret_i ?_⟩, fun w5 => ret_i ?_⟩
  · replace hv := (hv.1 w5).1 w6
    refine a_iret eX8_isOne_15 rfl rfl (ret_i ?_)
    refine a_if_eq (tgt := 16) eX8_becomes_5 (by decide) (fun h => absurd h (by decide)) (fun _ => ?_)
    refine a_iload_n eX8_becomes_8 rfl ?_
    refine a_iload_n eX8_becomes_9 rfl ?_
    refine qX8_230 rfl eX8_becomes_10 (Nat.le_of_ble_eq_true rfl) ?_
    refine Tr.of rfl (Nat.le_of_ble_eq_true rfl) (vs := [some (.int v2), some (.int v3)]) rfl ?_
    refine a_iload_n eX8_isAsked_0 rfl ?_
    refine a_i2l eX8_isAsked_1 ?_
    refine a_lconsti 1 eX8_isAsked_2 (by decide) ?_
    refine a_ldc2i 60 eX8_isAsked_3 kl_X8_228 (by decide) ?_
    refine qX8_68 rfl eX8_isAsked_6 (Nat.le_of_ble_eq_true rfl) ?_
    refine in_isIn (v := v2) (lo := 1) (hi := 60) ⟨fun w3 => ⟨fun w4 => ret_i ?_, fun w4 => ret_i ?_⟩, fun w3 => ret_i ?_⟩
    · replace hv := (hv.1 w3).1 w4
      refine a_if_eq (tgt := 26) eX8_isAsked_9 (by decide) (fun h => absurd h (by decide)) (fun _ => ?_)
      refine a_iload_n eX8_isAsked_12 rfl ?_
      refine a_i2l eX8_isAsked_13 ?_
      refine a_lconsti 0 eX8_isAsked_14 (by decide) ?_
      refine a_lconsti 1 eX8_isAsked_15 (by decide) ?_
      refine qX8_68 rfl eX8_isAsked_16 (Nat.le_of_ble_eq_true rfl) ?_
      refine in_isIn (v := v3) (lo := 0) (hi := 1) ⟨fun w1 => ⟨fun w2 => ret_i ?_, fun w2 => ret_i ?_⟩, fun w1 => ret_i ?_⟩
      · replace hv := (hv.1 w1).1 w2
        refine a_if_eq (tgt := 26) eX8_isAsked_19 (by decide) (fun h => absurd h (by decide)) (fun _ => ?_)
        refine a_iconst (v := 1) eX8_isAsked_22 (by decide) ?_
        refine a_goto (tgt := 27) eX8_isAsked_23 (by decide) ?_
        refine a_iret eX8_isAsked_27 rfl rfl (ret_i ?_)
        refine a_if_ne (tgt := 19) eX8_becomes_13 (by decide) (fun _ => ?_) (fun h => absurd h (by decide))
        refine a_aload_n eX8_becomes_19 rfl ?_
        exact qX8_222 rfl eX8_becomes_20 (Nat.le_of_ble_eq_true rfl) (tr_V [true, true, true, true, false, false, false, false] rfl rfl hv)
      · replace hv := (hv.1 w1).2 w2
        refine a_if_eq (tgt := 26) eX8_isAsked_19 (by decide) (fun _ => ?_) (fun h => absurd h (by decide))
        refine a_iconst (v := 0) eX8_isAsked_26 (by decide) ?_
        refine a_iret eX8_isAsked_27 rfl rfl (ret_i ?_)
        refine a_if_ne (tgt := 19) eX8_becomes_13 (by decide) (fun h => absurd h (by decide)) (fun _ => ?_)
        refine a_ldc eX8_becomes_16 kc_X8_117 ?_
        exact a_iret eX8_becomes_18 rfl rfl hv
      · replace hv := hv.2 w1
        refine a_if_eq (tgt := 26) eX8_isAsked_19 (by decide) (fun _ => ?_) (fun h => absurd h (by decide))
        refine a_iconst (v := 0) eX8_isAsked_26 (by decide) ?_
        refine a_iret eX8_isAsked_27 rfl rfl (ret_i ?_)
        refine a_if_ne (tgt := 19) eX8_becomes_13 (by decide) (fun h => absurd h (by decide)) (fun _ => ?_)
        refine a_ldc eX8_becomes_16 kc_X8_117 ?_
        exact a_iret eX8_becomes_18 rfl rfl hv
    · replace hv := (hv.1 w3).2 w4
      refine a_if_eq (tgt := 26) eX8_isAsked_9 (by decide) (fun _ => ?_) (fun h => absurd h (by decide))
      refine a_iconst (v := 0) eX8_isAsked_26 (by decide) ?_
      refine a_iret eX8_isAsked_27 rfl rfl (ret_i ?_)
      refine a_if_ne (tgt := 19) eX8_becomes_13 (by decide) (fun h => absurd h (by decide)) (fun _ => ?_)
      refine a_ldc eX8_becomes_16 kc_X8_117 ?_
      exact a_iret eX8_becomes_18 rfl rfl hv
    · replace hv := hv.2 w3
      refine a_if_eq (tgt := 26) eX8_isAsked_9 (by decide) (fun _ => ?_) (fun h => absurd h (by decide))
      refine a_iconst (v := 0) eX8_isAsked_26 (by decide) ?_
      refine a_iret eX8_isAsked_27 rfl rfl (ret_i ?_)
      refine a_if_ne (tgt := 19) eX8_becomes_13 (by decide) (fun h => absurd h (by decide)) (fun _ => ?_)
      refine a_ldc eX8_becomes_16 kc_X8_117 ?_
      exact a_iret eX8_becomes_18 rfl rfl hv
  · replace hv := (hv.1 w5).2 w6
    refine a_iret eX8_isOne_15 rfl rfl (ret_i ?_)
    refine a_if_eq (tgt := 16) eX8_becomes_5 (by decide) (fun _ => ?_) (fun h => absurd h (by decide))
    refine a_ldc eX8_becomes_16 kc_X8_117 ?_
    exact a_iret eX8_becomes_18 rfl rfl hv
  · replace hv := hv.2 w5
    refine a_iret eX8_isOne_15 rfl rfl (ret_i ?_)
    refine a_if_eq (tgt := 16) eX8_becomes_5 (by decide) (fun _ => ?_) (fun h => absurd h (by decide))
    refine a_ldc eX8_becomes_16 kc_X8_117 ?_
    exact a_iret eX8_becomes_18 rfl rfl hv
theorem bX8_becomes_23 {l : Launch} {G : GT} {d : Nat} {M : Mem} {R : Option Value → Mem → Prop} {v1 : Int32} {v2 : Int32} {v3 : Int32} (hv : At l G (d + 4) mX8_becomes 32 [some (.ref (G.1 100)), some (.int v1), some (.int v2), some (.int v3), some (.int 0), some (.int (-1)), some (.int 0), none] [] M R) : At l G (d + 4) mX8_becomes 23 [some (.ref (G.1 100)), some (.int v1), some (.int v2), some (.int v3), none, none, none, none] [] M R := by
  refine a_iconst (v := 0) eX8_becomes_23 (by decide) ?_
  refine a_istore (vs' := [some (.ref (G.1 100)), some (.int v1), some (.int v2), some (.int v3), some (.int 0), none, none, none]) eX8_becomes_24 rfl (Nat.le_of_ble_eq_true rfl) rfl ?_
  refine a_iconst (v := (-1)) eX8_becomes_26 (by decide) ?_
  refine a_istore (vs' := [some (.ref (G.1 100)), some (.int v1), some (.int v2), some (.int v3), some (.int 0), some (.int (-1)), none, none]) eX8_becomes_27 rfl (Nat.le_of_ble_eq_true rfl) rfl ?_
  refine a_iconst (v := 0) eX8_becomes_29 (by decide) ?_
  refine a_istore (vs' := [some (.ref (G.1 100)), some (.int v1), some (.int v2), some (.int v3), some (.int 0), some (.int (-1)), some (.int 0), none]) eX8_becomes_30 rfl (Nat.le_of_ble_eq_true rfl) rfl ?_
  exact a_weak [true, true, true, true, true, true, true, false] rfl rfl hv
theorem bX8_becomes_32 {l : Launch} {G : GT} {d : Nat} {M : Mem} {R : Option Value → Mem → Prop} {v1 : Int32} {v2 : Int32} {v3 : Int32} {v4 : Int32} {v5 : Int32} {v6 : Int32} (hv : (6 ≤ v6 → (v3 = 0 → R (some (.int v4)) M) ∧ (¬ (v3 = 0) → R (some (.int v5)) M)) ∧ (¬ (6 ≤ v6) → vp_in ((10 + (4 * v1)) + 0) 3084 ∧ Tr l G (d + 3) mX8_goesOnMany [.ref (G.1 100), .int v2] (um M 101 (ix ((10 + (4 * v1)) + 0)) v6) (kV fun M' => At l G (d + 4) mX8_becomes 52 [some (.ref (G.1 100)), some (.int v1), some (.int v2), some (.int v3), some (.int v4), some (.int v5), some (.int v6), none] [] M' R))) : At l G (d + 4) mX8_becomes 32 [some (.ref (G.1 100)), some (.int v1), some (.int v2), some (.int v3), some (.int v4), some (.int v5), some (.int v6), none] [] M R := by
  refine a_iload eX8_becomes_32 rfl ?_
  refine a_bipush (v := 6) eX8_becomes_34 (by decide) ?_
  refine a_icmp_ge (tgt := 100) eX8_becomes_36 (by decide) (fun w1 => ?_) (fun w1 => ?_)
  · replace hv := hv.1 w1
    refine a_iload_n eX8_becomes_100 rfl ?_
    refine a_if_ne (tgt := 109) eX8_becomes_101 (by decide) (fun w2 => ?_) (fun w2 => ?_)
    · replace hv := hv.2 w2
      refine a_iload eX8_becomes_109 rfl ?_
      exact a_iret eX8_becomes_111 rfl rfl hv
    · replace hv := hv.1 w2
      refine a_iload eX8_becomes_104 rfl ?_
      refine a_goto (tgt := 111) eX8_becomes_106 (by decide) ?_
      exact a_iret eX8_becomes_111 rfl rfl hv
  · replace hv := hv.2 w1
    refine a_aload_n eX8_becomes_39 rfl ?_
    refine a_iload_n eX8_becomes_40 rfl ?_
    refine a_iconst (v := 0) eX8_becomes_41 (by decide) ?_
    refine a_iload eX8_becomes_42 rfl ?_
    refine qX8_105 rfl eX8_becomes_44 (Nat.le_of_ble_eq_true rfl) ?_
    refine Tr.of rfl (Nat.le_of_ble_eq_true rfl) (vs := [some (.ref (G.1 100)), some (.int v1), some (.int 0), some (.int v6)]) rfl ?_
    refine a_aload_n eX8_sets_0 rfl ?_
    refine gX8_0 eX8_sets_1 fl_X8_7 ?_
    refine a_bipush (v := 10) eX8_sets_4 (by decide) ?_
    refine a_iconst (v := 4) eX8_sets_6 (by decide) ?_
    refine a_iload_n eX8_sets_7 rfl ?_
    refine a_imul eX8_sets_8 ?_
    refine a_iadd eX8_sets_9 ?_
    refine a_iload_n eX8_sets_10 rfl ?_
    refine a_iadd eX8_sets_11 ?_
    refine a_iload_n eX8_sets_12 rfl ?_
    obtain ⟨h3, hv⟩ := hv
    refine a_iast eX8_sets_13 sA101 kA101 h3 ?_
    refine a_vret eX8_sets_14 rfl (ret_v ?_)
    refine a_aload_n eX8_becomes_47 rfl ?_
    refine a_iload_n eX8_becomes_48 rfl ?_
    exact qX8_197 rfl eX8_becomes_49 (Nat.le_of_ble_eq_true rfl) (tr_V [true, true, true, true, true, true, true, false] rfl rfl hv)
theorem bX8_becomes_52 {l : Launch} {G : GT} {d : Nat} {M : Mem} {R : Option Value → Mem → Prop} {v1 : Int32} {v2 : Int32} {v3 : Int32} {v4 : Int32} {v5 : Int32} {v6 : Int32} (hv : Tr l G (d + 3) mX8_known [.ref (G.1 100)] M (kI fun q M' => At l G (d + 4) mX8_becomes 56 [some (.ref (G.1 100)), some (.int v1), some (.int v2), some (.int v3), some (.int v4), some (.int v5), some (.int v6), none] [.int q] M' R)) : At l G (d + 4) mX8_becomes 52 [some (.ref (G.1 100)), some (.int v1), some (.int v2), some (.int v3), some (.int v4), some (.int v5), some (.int v6), none] [] M R := by
  refine a_aload_n eX8_becomes_52 rfl ?_
  exact qX8_206 rfl eX8_becomes_53 (Nat.le_of_ble_eq_true rfl) (tr_I [true, true, true, true, true, true, true, false] rfl rfl hv)
theorem bX8_becomes_56 {l : Launch} {G : GT} {d : Nat} {M : Mem} {R : Option Value → Mem → Prop} {v1 : Int32} {v2 : Int32} {v3 : Int32} {v4 : Int32} {v5 : Int32} {v6 : Int32} {r : Int32} (hv : Tr l G (d + 3) mX8_laysBack [.ref (G.1 100)] M (kV fun M' => At l G (d + 4) mX8_becomes 62 [some (.ref (G.1 100)), some (.int v1), some (.int v2), some (.int v3), some (.int v4), some (.int v5), some (.int v6), some (.int r)] [] M' R)) : At l G (d + 4) mX8_becomes 56 [some (.ref (G.1 100)), some (.int v1), some (.int v2), some (.int v3), some (.int v4), some (.int v5), some (.int v6), none] [.int r] M R := by
  refine a_istore (vs' := [some (.ref (G.1 100)), some (.int v1), some (.int v2), some (.int v3), some (.int v4), some (.int v5), some (.int v6), some (.int r)]) eX8_becomes_56 rfl (Nat.le_of_ble_eq_true rfl) rfl ?_
  refine a_aload_n eX8_becomes_58 rfl ?_
  exact qX8_225 rfl eX8_becomes_59 (Nat.le_of_ble_eq_true rfl) (tr_V [true, true, true, true, true, true, true, true] rfl rfl hv)
theorem bX8_becomes_62 {l : Launch} {G : GT} {d : Nat} {M : Mem} {R : Option Value → Mem → Prop} {v1 : Int32} {v2 : Int32} {v3 : Int32} {v4 : Int32} {v5 : Int32} {v6 : Int32} {v7 : Int32} (hv : (v7 ≤ v5 → (v7 ≤ v5 → At l G (d + 4) mX8_becomes 32 [some (.ref (G.1 100)), some (.int v1), some (.int v2), some (.int v3), some (.int v4), some (.int v5), some (.int (v6 + 1)), none] [] M R) ∧ (¬ (v7 ≤ v5) → At l G (d + 4) mX8_becomes 32 [some (.ref (G.1 100)), some (.int v1), some (.int v2), some (.int v3), some (.int v4), some (.int v7), some (.int (v6 + 1)), none] [] M R)) ∧ (¬ (v7 ≤ v5) → (v7 ≤ v5 → At l G (d + 4) mX8_becomes 32 [some (.ref (G.1 100)), some (.int v1), some (.int v2), some (.int v3), some (.int v6), some (.int v5), some (.int (v6 + 1)), none] [] M R) ∧ (¬ (v7 ≤ v5) → At l G (d + 4) mX8_becomes 32 [some (.ref (G.1 100)), some (.int v1), some (.int v2), some (.int v3), some (.int v6), some (.int v7), some (.int (v6 + 1)), none] [] M R))) : At l G (d + 4) mX8_becomes 62 [some (.ref (G.1 100)), some (.int v1), some (.int v2), some (.int v3), some (.int v4), some (.int v5), some (.int v6), some (.int v7)] [] M R := by
  refine a_iload eX8_becomes_62 rfl ?_
  refine a_iload eX8_becomes_64 rfl ?_
  refine a_icmp_le (tgt := 74) eX8_becomes_66 (by decide) (fun w1 => ?_) (fun w1 => ?_)
  · replace hv := hv.1 w1
    refine a_iload eX8_becomes_74 rfl ?_
    refine a_istore (vs' := [some (.ref (G.1 100)), some (.int v1), some (.int v2), some (.int v3), some (.int v4), some (.int v5), some (.int v6), some (.int v7)]) eX8_becomes_76 rfl (Nat.le_of_ble_eq_true rfl) rfl ?_
    refine a_iload eX8_becomes_78 rfl ?_
    refine a_iload eX8_becomes_80 rfl ?_
    refine a_icmp_le (tgt := 90) eX8_becomes_82 (by decide) (fun w2 => ?_) (fun w2 => ?_)
    · replace hv := hv.1 w2
      refine a_iload eX8_becomes_90 rfl ?_
      refine a_istore (vs' := [some (.ref (G.1 100)), some (.int v1), some (.int v2), some (.int v3), some (.int v4), some (.int v5), some (.int v6), some (.int v7)]) eX8_becomes_92 rfl (Nat.le_of_ble_eq_true rfl) rfl ?_
      refine a_iinc (v := 1) (vs' := [some (.ref (G.1 100)), some (.int v1), some (.int v2), some (.int v3), some (.int v4), some (.int v5), some (.int (v6 + 1)), some (.int v7)]) eX8_becomes_94 rfl rfl (by decide) rfl ?_
      refine a_goto (tgt := 32) eX8_becomes_97 (by decide) ?_
      exact a_weak [true, true, true, true, true, true, true, false] rfl rfl hv
    · replace hv := hv.2 w2
      refine a_iload eX8_becomes_85 rfl ?_
      refine a_goto (tgt := 92) eX8_becomes_87 (by decide) ?_
      refine a_istore (vs' := [some (.ref (G.1 100)), some (.int v1), some (.int v2), some (.int v3), some (.int v4), some (.int v7), some (.int v6), some (.int v7)]) eX8_becomes_92 rfl (Nat.le_of_ble_eq_true rfl) rfl ?_
      refine a_iinc (v := 1) (vs' := [some (.ref (G.1 100)), some (.int v1), some (.int v2), some (.int v3), some (.int v4), some (.int v7), some (.int (v6 + 1)), some (.int v7)]) eX8_becomes_94 rfl rfl (by decide) rfl ?_
      refine a_goto (tgt := 32) eX8_becomes_97 (by decide) ?_
      exact a_weak [true, true, true, true, true, true, true, false] rfl rfl hv
  · replace hv := hv.2 w1
    refine a_iload eX8_becomes_69 rfl ?_
    refine a_goto (tgt := 76) eX8_becomes_71 (by decide) ?_
    refine a_istore (vs' := [some (.ref (G.1 100)), some (.int v1), some (.int v2), some (.int v3), some (.int v6), some (.int v5), some (.int v6), some (.int v7)]) eX8_becomes_76 rfl (Nat.le_of_ble_eq_true rfl) rfl ?_
    refine a_iload eX8_becomes_78 rfl ?_
    refine a_iload eX8_becomes_80 rfl ?_
    refine a_icmp_le (tgt := 90) eX8_becomes_82 (by decide) (fun w3 => ?_) (fun w3 => ?_)
    · replace hv := hv.1 w3
      refine a_iload eX8_becomes_90 rfl ?_
      refine a_istore (vs' := [some (.ref (G.1 100)), some (.int v1), some (.int v2), some (.int v3), some (.int v6), some (.int v5), some (.int v6), some (.int v7)]) eX8_becomes_92 rfl (Nat.le_of_ble_eq_true rfl) rfl ?_
      refine a_iinc (v := 1) (vs' := [some (.ref (G.1 100)), some (.int v1), some (.int v2), some (.int v3), some (.int v6), some (.int v5), some (.int (v6 + 1)), some (.int v7)]) eX8_becomes_94 rfl rfl (by decide) rfl ?_
      refine a_goto (tgt := 32) eX8_becomes_97 (by decide) ?_
      exact a_weak [true, true, true, true, true, true, true, false] rfl rfl hv
    · replace hv := hv.2 w3
      refine a_iload eX8_becomes_85 rfl ?_
      refine a_goto (tgt := 92) eX8_becomes_87 (by decide) ?_
      refine a_istore (vs' := [some (.ref (G.1 100)), some (.int v1), some (.int v2), some (.int v3), some (.int v6), some (.int v7), some (.int v6), some (.int v7)]) eX8_becomes_92 rfl (Nat.le_of_ble_eq_true rfl) rfl ?_
      refine a_iinc (v := 1) (vs' := [some (.ref (G.1 100)), some (.int v1), some (.int v2), some (.int v3), some (.int v6), some (.int v7), some (.int (v6 + 1)), some (.int v7)]) eX8_becomes_94 rfl rfl (by decide) rfl ?_
      refine a_goto (tgt := 32) eX8_becomes_97 (by decide) ?_
      exact a_weak [true, true, true, true, true, true, true, false] rfl rfl hv
theorem tX8_fee {l : Launch} {G : GT} {d : Nat} {M : Mem} {R : Option Value → Mem → Prop}  (hv : Tr l G (d + 3) mX8_counts [.ref (G.1 100), .int 1] M (kI fun q M' => At l G (d + 4) mX8_fee 5 [some (.ref (G.1 100)), none] [.int q] M' R)) : Tr l G (d + 4) mX8_fee [.ref (G.1 100)] M R := by
  refine Tr.of rfl (Nat.le_of_ble_eq_true rfl) (vs := [some (.ref (G.1 100)), none]) rfl ?_
  refine a_aload_n eX8_fee_0 rfl ?_
  refine a_iconst (v := 1) eX8_fee_1 (by decide) ?_
  exact qX8_93 rfl eX8_fee_2 (Nat.le_of_ble_eq_true rfl) (tr_I [true, false] rfl rfl hv)
theorem bX8_fee_5 {l : Launch} {G : GT} {d : Nat} {M : Mem} {R : Option Value → Mem → Prop} {r : Int32} (hv : (0 ≤ r → ∀ M2 : Mem, M2 = um (um M 115 107 (M 101 6)) 115 105 ((um M 115 107 (M 101 6)) 101 7) → Tr l G (d + 3) mX8_worked [.ref (G.1 100), .int r] M2 (kI fun q M' => At l G (d + 4) mX8_fee 51 [none, none] [.int q] M' R)) ∧ (¬ (0 ≤ r) → R (some (.int (M 101 6))) M)) : At l G (d + 4) mX8_fee 5 [some (.ref (G.1 100)), none] [.int r] M R := by
  refine a_istore_n (vs' := [some (.ref (G.1 100)), some (.int r)]) eX8_fee_5 rfl (Nat.le_of_ble_eq_true rfl) rfl ?_
  refine a_iload_n eX8_fee_6 rfl ?_
  refine a_if_ge (tgt := 18) eX8_fee_7 (by decide) (fun w1 => ?_) (fun w1 => ?_)
  · replace hv := hv.1 w1
    refine a_aload_n eX8_fee_18 rfl ?_
    refine gX8_26 eX8_fee_19 fl_X8_52 ?_
    refine a_bipush (v := 107) eX8_fee_22 (by decide) ?_
    refine a_aload_n eX8_fee_24 rfl ?_
    refine gX8_0 eX8_fee_25 fl_X8_7 ?_
    refine a_bipush (v := 6) eX8_fee_28 (by decide) ?_
    refine a_ialdc 6 eX8_fee_30 sA101 kA101 (by decide) (by decide) ?_
    refine a_iastc 107 eX8_fee_31 sA115 kA115 (by decide) (by decide) ?_
    refine a_aload_n eX8_fee_32 rfl ?_
    refine gX8_26 eX8_fee_33 fl_X8_52 ?_
    refine a_bipush (v := 105) eX8_fee_36 (by decide) ?_
    refine a_aload_n eX8_fee_38 rfl ?_
    refine gX8_0 eX8_fee_39 fl_X8_7 ?_
    refine a_bipush (v := 7) eX8_fee_42 (by decide) ?_
    refine a_ialdc 7 eX8_fee_44 sA101 kA101 (by decide) (by decide) ?_
    refine a_iastc 105 eX8_fee_45 sA115 kA115 (by decide) (by decide) ?_
    refine a_nm (fun M2 eM2 => ?_)
    replace hv := hv M2 eM2
    refine a_aload_n eX8_fee_46 rfl ?_
    refine a_iload_n eX8_fee_47 rfl ?_
    exact qX8_96 rfl eX8_fee_48 (Nat.le_of_ble_eq_true rfl) (tr_I [false, false] rfl rfl hv)
  · replace hv := hv.2 w1
    refine a_aload_n eX8_fee_10 rfl ?_
    refine gX8_0 eX8_fee_11 fl_X8_7 ?_
    refine a_bipush (v := 6) eX8_fee_14 (by decide) ?_
    refine a_ialdc 6 eX8_fee_16 sA101 kA101 (by decide) (by decide) ?_
    exact a_iret eX8_fee_17 rfl rfl hv
theorem bX8_fee_51 {l : Launch} {G : GT} {d : Nat} {M : Mem} {R : Option Value → Mem → Prop} {r : Int32} (hv : R (some (.int r)) M) : At l G (d + 4) mX8_fee 51 [none, none] [.int r] M R := by
  exact a_iret eX8_fee_51 rfl rfl hv
theorem tX8_fine {l : Launch} {G : GT} {d : Nat} {M : Mem} {R : Option Value → Mem → Prop} {v1 : Int32} (hv : (0 ≤ v1 → (v1 ≤ ((M 101 0) - 1) → Tr l G (d + 3) mX8_counts [.ref (G.1 100), .int 2] M (kI fun q M' => At l G (d + 4) mX8_fine 16 [some (.ref (G.1 100)), some (.int v1), none] [.int q] M' R)) ∧ (¬ (v1 ≤ ((M 101 0) - 1)) → R (some (.int (-1000000001))) M)) ∧ (¬ (0 ≤ v1) → R (some (.int (-1000000001))) M)) : Tr l G (d + 4) mX8_fine [.ref (G.1 100), .int v1] M R := by
  refine Tr.of rfl (Nat.le_of_ble_eq_true rfl) (vs := [some (.ref (G.1 100)), some (.int v1), none]) rfl ?_
  refine a_aload_n eX8_fine_0 rfl ?_
  refine a_iload_n eX8_fine_1 rfl ?_
  refine qX8_123 rfl eX8_fine_2 (Nat.le_of_ble_eq_true rfl) ?_
  refine Tr.of rfl (Nat.le_of_ble_eq_true rfl) (vs := [some (.ref (G.1 100)), some (.int v1)]) rfl ?_
  refine a_iload_n eX8_isOne_0 rfl ?_
  refine a_i2l eX8_isOne_1 ?_
  refine a_lconsti 0 eX8_isOne_2 (by decide) ?_
  refine a_aload_n eX8_isOne_3 rfl ?_
  refine gX8_0 eX8_isOne_4 fl_X8_7 ?_
  refine a_iconst (v := 0) eX8_isOne_7 (by decide) ?_
  refine a_ialdc 0 eX8_isOne_8 sA101 kA101 (by decide) (by decide) ?_
  refine a_iconst (v := 1) eX8_isOne_9 (by decide) ?_
  refine a_isub eX8_isOne_10 ?_
  refine a_i2l eX8_isOne_11 ?_
  refine qX8_68 rfl eX8_isOne_12 (Nat.le_of_ble_eq_true rfl) ?_
  refine in_isIn (v := v1) (lo := 0) (hi := (M 101 0) - 1) ⟨fun w1 => ⟨fun w2 => ret_i ?_, fun w2 => ret_i ?_⟩, fun w1 => ret_i ?_⟩
  · replace hv := (hv.1 w1).1 w2
    refine a_iret eX8_isOne_15 rfl rfl (ret_i ?_)
    refine a_if_ne (tgt := 11) eX8_fine_5 (by decide) (fun _ => ?_) (fun h => absurd h (by decide))
    refine a_aload_n eX8_fine_11 rfl ?_
    refine a_iconst (v := 2) eX8_fine_12 (by decide) ?_
    exact qX8_93 rfl eX8_fine_13 (Nat.le_of_ble_eq_true rfl) (tr_I [true, true, false] rfl rfl hv)
  · replace hv := (hv.1 w1).2 w2
    refine a_iret eX8_isOne_15 rfl rfl (ret_i ?_)
    refine a_if_ne (tgt := 11) eX8_fine_5 (by decide) (fun h => absurd h (by decide)) (fun _ => ?_)
    refine a_ldc eX8_fine_8 kc_X8_117 ?_
    exact a_iret eX8_fine_10 rfl rfl hv
  · replace hv := hv.2 w1
    refine a_iret eX8_isOne_15 rfl rfl (ret_i ?_)
    refine a_if_ne (tgt := 11) eX8_fine_5 (by decide) (fun h => absurd h (by decide)) (fun _ => ?_)
    refine a_ldc eX8_fine_8 kc_X8_117 ?_
    exact a_iret eX8_fine_10 rfl rfl hv
theorem bX8_fine_16 {l : Launch} {G : GT} {d : Nat} {M : Mem} {R : Option Value → Mem → Prop} {v1 : Int32} {r : Int32} (hv : (0 ≤ r → vp_in ((10 + (4 * v1)) + 3) 3084 ∧ Tr l G (d + 3) mX8_bits [.int (M 101 (ix ((10 + (4 * v1)) + 3)))] M (kI fun q M' => At l G (d + 4) mX8_fine 46 [some (.ref (G.1 100)), some (.int v1), some (.int r)] [.int q, .int 115, .ref (G.1 115)] M' R)) ∧ (¬ (0 ≤ r) → vp_in ((10 + (4 * v1)) + 3) 3084 ∧ Tr l G (d + 3) mX8_bits [.int (M 101 (ix ((10 + (4 * v1)) + 3)))] M (kI fun q M' => At l G (d + 4) mX8_fine 30 [none, none, none] [.int q] M' R))) : At l G (d + 4) mX8_fine 16 [some (.ref (G.1 100)), some (.int v1), none] [.int r] M R := by
  refine a_istore_n (vs' := [some (.ref (G.1 100)), some (.int v1), some (.int r)]) eX8_fine_16 rfl (Nat.le_of_ble_eq_true rfl) rfl ?_
  refine a_iload_n eX8_fine_17 rfl ?_
  refine a_if_ge (tgt := 31) eX8_fine_18 (by decide) (fun w1 => ?_) (fun w1 => ?_)
  · replace hv := hv.1 w1
    refine a_aload_n eX8_fine_31 rfl ?_
    refine gX8_26 eX8_fine_32 fl_X8_52 ?_
    refine a_bipush (v := 115) eX8_fine_35 (by decide) ?_
    refine a_aload_n eX8_fine_37 rfl ?_
    refine a_iload_n eX8_fine_38 rfl ?_
    refine a_iconst (v := 3) eX8_fine_39 (by decide) ?_
    refine qX8_86 rfl eX8_fine_40 (Nat.le_of_ble_eq_true rfl) ?_
    refine Tr.of rfl (Nat.le_of_ble_eq_true rfl) (vs := [some (.ref (G.1 100)), some (.int v1), some (.int 3)]) rfl ?_
    refine a_aload_n eX8_of_0 rfl ?_
    refine gX8_0 eX8_of_1 fl_X8_7 ?_
    refine a_bipush (v := 10) eX8_of_4 (by decide) ?_
    refine a_iconst (v := 4) eX8_of_6 (by decide) ?_
    refine a_iload_n eX8_of_7 rfl ?_
    refine a_imul eX8_of_8 ?_
    refine a_iadd eX8_of_9 ?_
    refine a_iload_n eX8_of_10 rfl ?_
    refine a_iadd eX8_of_11 ?_
    obtain ⟨h2, hv⟩ := hv
    refine a_iald eX8_of_12 sA101 kA101 h2 ?_
    refine a_iret eX8_of_13 rfl rfl (ret_i ?_)
    exact qX8_102 rfl eX8_fine_43 (Nat.le_of_ble_eq_true rfl) (tr_I [true, true, true] rfl rfl hv)
  · replace hv := hv.2 w1
    refine a_aload_n eX8_fine_21 rfl ?_
    refine a_iload_n eX8_fine_22 rfl ?_
    refine a_iconst (v := 3) eX8_fine_23 (by decide) ?_
    refine qX8_86 rfl eX8_fine_24 (Nat.le_of_ble_eq_true rfl) ?_
    refine Tr.of rfl (Nat.le_of_ble_eq_true rfl) (vs := [some (.ref (G.1 100)), some (.int v1), some (.int 3)]) rfl ?_
    refine a_aload_n eX8_of_0 rfl ?_
    refine gX8_0 eX8_of_1 fl_X8_7 ?_
    refine a_bipush (v := 10) eX8_of_4 (by decide) ?_
    refine a_iconst (v := 4) eX8_of_6 (by decide) ?_
    refine a_iload_n eX8_of_7 rfl ?_
    refine a_imul eX8_of_8 ?_
    refine a_iadd eX8_of_9 ?_
    refine a_iload_n eX8_of_10 rfl ?_
    refine a_iadd eX8_of_11 ?_
    obtain ⟨h3, hv⟩ := hv
    refine a_iald eX8_of_12 sA101 kA101 h3 ?_
    refine a_iret eX8_of_13 rfl rfl (ret_i ?_)
    exact qX8_102 rfl eX8_fine_27 (Nat.le_of_ble_eq_true rfl) (tr_I [false, false, false] rfl rfl hv)
theorem bX8_fine_30 {l : Launch} {G : GT} {d : Nat} {M : Mem} {R : Option Value → Mem → Prop} {r : Int32} (hv : R (some (.int r)) M) : At l G (d + 4) mX8_fine 30 [none, none, none] [.int r] M R := by
  exact a_iret eX8_fine_30 rfl rfl hv
theorem bX8_fine_46 {l : Launch} {G : GT} {d : Nat} {M : Mem} {R : Option Value → Mem → Prop} {v1 : Int32} {v2 : Int32} {r : Int32} {t1 : Int32} (hv : vp_in t1 128 ∧ vp_in ((10 + (4 * v1)) + 1) 3084 ∧ ∀ M3 : Mem, M3 = um (um M 115 (ix t1) r) 115 112 ((um M 115 (ix t1) r) 101 (ix ((10 + (4 * v1)) + 1))) → Tr l G (d + 3) mX8_worked [.ref (G.1 100), .int v2] M3 (kI fun q M' => At l G (d + 4) mX8_fine 65 [none, none, none] [.int q] M' R)) : At l G (d + 4) mX8_fine 46 [some (.ref (G.1 100)), some (.int v1), some (.int v2)] [.int r, .int t1, .ref (G.1 115)] M R := by
  obtain ⟨h1, hv⟩ := hv
  refine a_iast eX8_fine_46 sA115 kA115 h1 ?_
  refine a_aload_n eX8_fine_47 rfl ?_
  refine gX8_26 eX8_fine_48 fl_X8_52 ?_
  refine a_bipush (v := 112) eX8_fine_51 (by decide) ?_
  refine a_aload_n eX8_fine_53 rfl ?_
  refine a_iload_n eX8_fine_54 rfl ?_
  refine a_iconst (v := 1) eX8_fine_55 (by decide) ?_
  refine qX8_86 rfl eX8_fine_56 (Nat.le_of_ble_eq_true rfl) ?_
  refine Tr.of rfl (Nat.le_of_ble_eq_true rfl) (vs := [some (.ref (G.1 100)), some (.int v1), some (.int 1)]) rfl ?_
  refine a_aload_n eX8_of_0 rfl ?_
  refine gX8_0 eX8_of_1 fl_X8_7 ?_
  refine a_bipush (v := 10) eX8_of_4 (by decide) ?_
  refine a_iconst (v := 4) eX8_of_6 (by decide) ?_
  refine a_iload_n eX8_of_7 rfl ?_
  refine a_imul eX8_of_8 ?_
  refine a_iadd eX8_of_9 ?_
  refine a_iload_n eX8_of_10 rfl ?_
  refine a_iadd eX8_of_11 ?_
  obtain ⟨h2, hv⟩ := hv
  refine a_iald eX8_of_12 sA101 kA101 h2 ?_
  refine a_iret eX8_of_13 rfl rfl (ret_i ?_)
  refine a_iastc 112 eX8_fine_59 sA115 kA115 (by decide) (by decide) ?_
  refine a_nm (fun M3 eM3 => ?_)
  replace hv := hv M3 eM3
  refine a_aload_n eX8_fine_60 rfl ?_
  refine a_iload_n eX8_fine_61 rfl ?_
  exact qX8_96 rfl eX8_fine_62 (Nat.le_of_ble_eq_true rfl) (tr_I [false, false, false] rfl rfl hv)
theorem bX8_fine_65 {l : Launch} {G : GT} {d : Nat} {M : Mem} {R : Option Value → Mem → Prop} {r : Int32} (hv : R (some (.int r)) M) : At l G (d + 4) mX8_fine 65 [none, none, none] [.int r] M R := by
  exact a_iret eX8_fine_65 rfl rfl hv
theorem tX8_feed {l : Launch} {G : GT} {d : Nat} {M : Mem} {R : Option Value → Mem → Prop} {v1 : Int32} {v2 : Int32} {v3 : Int32} (hv : (((M 100 15) + 12) ≤ 96 → At l G (d + 4) mX8_feed 18 [some (.ref (G.1 100)), some (.int v1), some (.int v2), some (.int v3), some (.int 0), none] [] M R) ∧ (¬ (((M 100 15) + 12) ≤ 96) → R (some (.int (-1000000003))) M)) : Tr l G (d + 4) mX8_feed [.ref (G.1 100), .int v1, .int v2, .int v3] M R := by
  refine Tr.of rfl (Nat.le_of_ble_eq_true rfl) (vs := [some (.ref (G.1 100)), some (.int v1), some (.int v2), some (.int v3), none, none]) rfl ?_
  refine a_aload_n eX8_feed_0 rfl ?_
  refine gX8_15 eX8_feed_1 fl_X8_233 ?_
  refine a_bipush (v := 12) eX8_feed_4 (by decide) ?_
  refine a_iadd eX8_feed_6 ?_
  refine a_bipush (v := 96) eX8_feed_7 (by decide) ?_
  refine a_icmp_le (tgt := 15) eX8_feed_9 (by decide) (fun w1 => ?_) (fun w1 => ?_)
  · replace hv := hv.1 w1
    refine a_iconst (v := 0) eX8_feed_15 (by decide) ?_
    refine a_istore (vs' := [some (.ref (G.1 100)), some (.int v1), some (.int v2), some (.int v3), some (.int 0), none]) eX8_feed_16 rfl (Nat.le_of_ble_eq_true rfl) rfl ?_
    exact a_weak [true, true, true, true, true, false] rfl rfl hv
  · replace hv := hv.2 w1
    refine a_ldc eX8_feed_12 kc_X8_118 ?_
    exact a_iret eX8_feed_14 rfl rfl hv
theorem bX8_feed_18 {l : Launch} {G : GT} {d : Nat} {M : Mem} {R : Option Value → Mem → Prop} {v1 : Int32} {v2 : Int32} {v3 : Int32} {v4 : Int32} (hv : (12 ≤ v4 → R (some (.int (M 100 15))) M) ∧ (¬ (12 ≤ v4) → (4 ≤ v4 → (8 ≤ v4 → vp_in (M 100 15) 96 ∧ ∀ M5 : Mem, M5 = um M 114 (ix (M 100 15)) ((v3 >>> ((24 - (8 * (v4 - v4 / 4 * 4))) &&& 31)) &&& 255) → At l G (d + 4) mX8_feed 18 [some (.ref (G.1 100)), some (.int v1), some (.int v2), some (.int v3), some (.int (v4 + 1)), none] [] (um M5 100 15 ((M5 100 15) + 1)) R) ∧ (¬ (8 ≤ v4) → vp_in (M 100 15) 96 ∧ ∀ M7 : Mem, M7 = um M 114 (ix (M 100 15)) ((v2 >>> ((24 - (8 * (v4 - v4 / 4 * 4))) &&& 31)) &&& 255) → At l G (d + 4) mX8_feed 18 [some (.ref (G.1 100)), some (.int v1), some (.int v2), some (.int v3), some (.int (v4 + 1)), none] [] (um M7 100 15 ((M7 100 15) + 1)) R)) ∧ (¬ (4 ≤ v4) → vp_in (M 100 15) 96 ∧ ∀ M9 : Mem, M9 = um M 114 (ix (M 100 15)) ((v1 >>> ((24 - (8 * (v4 - v4 / 4 * 4))) &&& 31)) &&& 255) → At l G (d + 4) mX8_feed 18 [some (.ref (G.1 100)), some (.int v1), some (.int v2), some (.int v3), some (.int (v4 + 1)), none] [] (um M9 100 15 ((M9 100 15) + 1)) R))) : At l G (d + 4) mX8_feed 18 [some (.ref (G.1 100)), some (.int v1), some (.int v2), some (.int v3), some (.int v4), none] [] M R := by
  refine a_iload eX8_feed_18 rfl ?_
  refine a_bipush (v := 12) eX8_feed_20 (by decide) ?_
  refine a_icmp_ge (tgt := 91) eX8_feed_22 (by decide) (fun w1 => ?_) (fun w1 => ?_)
  · replace hv := hv.1 w1
    refine a_aload_n eX8_feed_91 rfl ?_
    refine gX8_15 eX8_feed_92 fl_X8_233 ?_
    exact a_iret eX8_feed_95 rfl rfl hv
  · replace hv := hv.2 w1
    refine a_iload eX8_feed_25 rfl ?_
    refine a_iconst (v := 4) eX8_feed_27 (by decide) ?_
    refine a_icmp_ge (tgt := 35) eX8_feed_28 (by decide) (fun w2 => ?_) (fun w2 => ?_)
    · replace hv := hv.1 w2
      refine a_iload eX8_feed_35 rfl ?_
      refine a_bipush (v := 8) eX8_feed_37 (by decide) ?_
      refine a_icmp_ge (tgt := 46) eX8_feed_39 (by decide) (fun w3 => ?_) (fun w3 => ?_)
      · replace hv := hv.1 w3
        refine a_iload_n eX8_feed_46 rfl ?_
        refine a_istore (vs' := [some (.ref (G.1 100)), some (.int v1), some (.int v2), some (.int v3), some (.int v4), some (.int v3)]) eX8_feed_47 rfl (Nat.le_of_ble_eq_true rfl) rfl ?_
        refine a_aload_n eX8_feed_49 rfl ?_
        refine gX8_14 eX8_feed_50 fl_X8_49 ?_
        refine a_aload_n eX8_feed_53 rfl ?_
        refine gX8_15 eX8_feed_54 fl_X8_233 ?_
        refine a_iload eX8_feed_57 rfl ?_
        refine a_bipush (v := 24) eX8_feed_59 (by decide) ?_
        refine a_bipush (v := 8) eX8_feed_61 (by decide) ?_
        refine a_iload eX8_feed_63 rfl ?_
        refine a_iconst (v := 4) eX8_feed_65 (by decide) ?_
        refine a_irem eX8_feed_66 (by decide) ?_
        refine a_imul eX8_feed_67 ?_
        refine a_isub eX8_feed_68 ?_
        refine a_ishr eX8_feed_69 ?_
        refine a_sipush (v := 255) eX8_feed_70 (by decide) ?_
        refine a_iand eX8_feed_73 ?_
        obtain ⟨h4, hv⟩ := hv
        refine a_iast eX8_feed_74 sA114 kA114 h4 ?_
        refine a_nm (fun M5 eM5 => ?_)
        replace hv := hv M5 eM5
        refine a_aload_n eX8_feed_75 rfl ?_
        refine a_dup eX8_feed_76 rfl ?_
        refine gX8_15 eX8_feed_77 fl_X8_233 ?_
        refine a_iconst (v := 1) eX8_feed_80 (by decide) ?_
        refine a_iadd eX8_feed_81 ?_
        refine pX8_15 eX8_feed_82 fl_X8_233 ?_
        refine a_iinc (v := 1) (vs' := [some (.ref (G.1 100)), some (.int v1), some (.int v2), some (.int v3), some (.int (v4 + 1)), some (.int v3)]) eX8_feed_85 rfl rfl (by decide) rfl ?_
        refine a_goto (tgt := 18) eX8_feed_88 (by decide) ?_
        exact a_weak [true, true, true, true, true, false] rfl rfl hv
      · replace hv := hv.2 w3
        refine a_iload_n eX8_feed_42 rfl ?_
        refine a_goto (tgt := 47) eX8_feed_43 (by decide) ?_
        refine a_istore (vs' := [some (.ref (G.1 100)), some (.int v1), some (.int v2), some (.int v3), some (.int v4), some (.int v2)]) eX8_feed_47 rfl (Nat.le_of_ble_eq_true rfl) rfl ?_
        refine a_aload_n eX8_feed_49 rfl ?_
        refine gX8_14 eX8_feed_50 fl_X8_49 ?_
        refine a_aload_n eX8_feed_53 rfl ?_
        refine gX8_15 eX8_feed_54 fl_X8_233 ?_
        refine a_iload eX8_feed_57 rfl ?_
        refine a_bipush (v := 24) eX8_feed_59 (by decide) ?_
        refine a_bipush (v := 8) eX8_feed_61 (by decide) ?_
        refine a_iload eX8_feed_63 rfl ?_
        refine a_iconst (v := 4) eX8_feed_65 (by decide) ?_
        refine a_irem eX8_feed_66 (by decide) ?_
        refine a_imul eX8_feed_67 ?_
        refine a_isub eX8_feed_68 ?_
        refine a_ishr eX8_feed_69 ?_
        refine a_sipush (v := 255) eX8_feed_70 (by decide) ?_
        refine a_iand eX8_feed_73 ?_
        obtain ⟨h6, hv⟩ := hv
        refine a_iast eX8_feed_74 sA114 kA114 h6 ?_
        refine a_nm (fun M7 eM7 => ?_)
        replace hv := hv M7 eM7
        refine a_aload_n eX8_feed_75 rfl ?_
        refine a_dup eX8_feed_76 rfl ?_
        refine gX8_15 eX8_feed_77 fl_X8_233 ?_
        refine a_iconst (v := 1) eX8_feed_80 (by decide) ?_
        refine a_iadd eX8_feed_81 ?_
        refine pX8_15 eX8_feed_82 fl_X8_233 ?_
        refine a_iinc (v := 1) (vs' := [some (.ref (G.1 100)), some (.int v1), some (.int v2), some (.int v3), some (.int (v4 + 1)), some (.int v2)]) eX8_feed_85 rfl rfl (by decide) rfl ?_
        refine a_goto (tgt := 18) eX8_feed_88 (by decide) ?_
        exact a_weak [true, true, true, true, true, false] rfl rfl hv
    · replace hv := hv.2 w2
      refine a_iload_n eX8_feed_31 rfl ?_
      refine a_goto (tgt := 47) eX8_feed_32 (by decide) ?_
      refine a_istore (vs' := [some (.ref (G.1 100)), some (.int v1), some (.int v2), some (.int v3), some (.int v4), some (.int v1)]) eX8_feed_47 rfl (Nat.le_of_ble_eq_true rfl) rfl ?_
      refine a_aload_n eX8_feed_49 rfl ?_
      refine gX8_14 eX8_feed_50 fl_X8_49 ?_
      refine a_aload_n eX8_feed_53 rfl ?_
      refine gX8_15 eX8_feed_54 fl_X8_233 ?_
      refine a_iload eX8_feed_57 rfl ?_
      refine a_bipush (v := 24) eX8_feed_59 (by decide) ?_
      refine a_bipush (v := 8) eX8_feed_61 (by decide) ?_
      refine a_iload eX8_feed_63 rfl ?_
      refine a_iconst (v := 4) eX8_feed_65 (by decide) ?_
      refine a_irem eX8_feed_66 (by decide) ?_
      refine a_imul eX8_feed_67 ?_
      refine a_isub eX8_feed_68 ?_
      refine a_ishr eX8_feed_69 ?_
      refine a_sipush (v := 255) eX8_feed_70 (by decide) ?_
      refine a_iand eX8_feed_73 ?_
      obtain ⟨h8, hv⟩ := hv
      refine a_iast eX8_feed_74 sA114 kA114 h8 ?_
      refine a_nm (fun M9 eM9 => ?_)
      replace hv := hv M9 eM9
      refine a_aload_n eX8_feed_75 rfl ?_
      refine a_dup eX8_feed_76 rfl ?_
      refine gX8_15 eX8_feed_77 fl_X8_233 ?_
      refine a_iconst (v := 1) eX8_feed_80 (by decide) ?_
      refine a_iadd eX8_feed_81 ?_
      refine pX8_15 eX8_feed_82 fl_X8_233 ?_
      refine a_iinc (v := 1) (vs' := [some (.ref (G.1 100)), some (.int v1), some (.int v2), some (.int v3), some (.int (v4 + 1)), some (.int v1)]) eX8_feed_85 rfl rfl (by decide) rfl ?_
      refine a_goto (tgt := 18) eX8_feed_88 (by decide) ?_
      exact a_weak [true, true, true, true, true, false] rfl rfl hv
theorem tX8_trim {l : Launch} {G : GT} {d : Nat} {M : Mem} {R : Option Value → Mem → Prop} {v1 : Int32} (hv : (0 ≤ v1 → (v1 ≤ (M 100 15) → R (some (.int v1)) (um M 100 15 v1)) ∧ (¬ (v1 ≤ (M 100 15)) → R (some (.int (-1000000001))) M)) ∧ (¬ (0 ≤ v1) → R (some (.int (-1000000001))) M)) : Tr l G (d + 4) mX8_trim [.ref (G.1 100), .int v1] M R := by
  refine Tr.of rfl (Nat.le_of_ble_eq_true rfl) (vs := [some (.ref (G.1 100)), some (.int v1)]) rfl ?_
  refine a_iload_n eX8_trim_0 rfl ?_
  refine a_i2l eX8_trim_1 ?_
  refine a_lconsti 0 eX8_trim_2 (by decide) ?_
  refine a_aload_n eX8_trim_3 rfl ?_
  refine gX8_15 eX8_trim_4 fl_X8_233 ?_
  refine a_i2l eX8_trim_7 ?_
  refine qX8_68 rfl eX8_trim_8 (Nat.le_of_ble_eq_true rfl) ?_
  refine in_isIn (v := v1) (lo := 0) (hi := M 100 15) ⟨fun w1 => ⟨fun w2 => ret_i ?_, fun w2 => ret_i ?_⟩, fun w1 => ret_i ?_⟩
  · replace hv := (hv.1 w1).1 w2
    refine a_if_ne (tgt := 17) eX8_trim_11 (by decide) (fun _ => ?_) (fun h => absurd h (by decide))
    refine a_aload_n eX8_trim_17 rfl ?_
    refine a_iload_n eX8_trim_18 rfl ?_
    refine pX8_15 eX8_trim_19 fl_X8_233 ?_
    refine a_iload_n eX8_trim_22 rfl ?_
    exact a_iret eX8_trim_23 rfl rfl hv
  · replace hv := (hv.1 w1).2 w2
    refine a_if_ne (tgt := 17) eX8_trim_11 (by decide) (fun h => absurd h (by decide)) (fun _ => ?_)
    refine a_ldc eX8_trim_14 kc_X8_117 ?_
    exact a_iret eX8_trim_16 rfl rfl hv
  · replace hv := hv.2 w1
    refine a_if_ne (tgt := 17) eX8_trim_11 (by decide) (fun h => absurd h (by decide)) (fun _ => ?_)
    refine a_ldc eX8_trim_14 kc_X8_117 ?_
    exact a_iret eX8_trim_16 rfl rfl hv
theorem tX8_nextToken {l : Launch} {G : GT} {d : Nat} {M : Mem} {R : Option Value → Mem → Prop}  (hv : ((M 100 17) ≤ 0 → At l G (d + 4) mX8_nextToken 27 [some (.ref (G.1 100)), none, none] [] M R) ∧ (¬ ((M 100 17) ≤ 0) → ((M 100 18) = 1 → At l G (d + 4) mX8_nextToken 23 [some (.ref (G.1 100)), none, none] [] M R) ∧ (¬ ((M 100 18) = 1) → ((M 100 18) = 2 → At l G (d + 4) mX8_nextToken 23 [some (.ref (G.1 100)), none, none] [] M R) ∧ (¬ ((M 100 18) = 2) → At l G (d + 4) mX8_nextToken 27 [some (.ref (G.1 100)), none, none] [] M R)))) : Tr l G (d + 4) mX8_nextToken [.ref (G.1 100)] M R := by
  refine Tr.of rfl (Nat.le_of_ble_eq_true rfl) (vs := [some (.ref (G.1 100)), none, none]) rfl ?_
  refine a_aload_n eX8_nextToken_0 rfl ?_
  refine gX8_17 eX8_nextToken_1 fl_X8_245 ?_
  refine a_if_le (tgt := 27) eX8_nextToken_4 (by decide) (fun w1 => ?_) (fun w1 => ?_)
  · replace hv := hv.1 w1
    exact a_weak [true, false, false] rfl rfl hv
  · replace hv := hv.2 w1
    refine a_aload_n eX8_nextToken_7 rfl ?_
    refine gX8_18 eX8_nextToken_8 fl_X8_248 ?_
    refine a_iconst (v := 1) eX8_nextToken_11 (by decide) ?_
    refine a_icmp_eq (tgt := 23) eX8_nextToken_12 (by decide) (fun w2 => ?_) (fun w2 => ?_)
    · replace hv := hv.1 w2
      exact a_weak [true, false, false] rfl rfl hv
    · replace hv := hv.2 w2
      refine a_aload_n eX8_nextToken_15 rfl ?_
      refine gX8_18 eX8_nextToken_16 fl_X8_248 ?_
      refine a_iconst (v := 2) eX8_nextToken_19 (by decide) ?_
      refine a_icmp_ne (tgt := 27) eX8_nextToken_20 (by decide) (fun w3 => ?_) (fun w3 => ?_)
      · replace hv := hv.2 w3
        exact a_weak [true, false, false] rfl rfl hv
      · replace hv := hv.1 w3
        exact a_weak [true, false, false] rfl rfl hv
theorem bX8_nextToken_23 {l : Launch} {G : GT} {d : Nat} {M : Mem} {R : Option Value → Mem → Prop}  (hv : At l G (d + 4) mX8_nextToken 28 [some (.ref (G.1 100)), none, none] [.int 1] M R) : At l G (d + 4) mX8_nextToken 23 [some (.ref (G.1 100)), none, none] [] M R := by
  refine a_iconst (v := 1) eX8_nextToken_23 (by decide) ?_
  refine a_goto (tgt := 28) eX8_nextToken_24 (by decide) ?_
  exact a_weak [true, false, false] rfl rfl hv
theorem bX8_nextToken_28 {l : Launch} {G : GT} {d : Nat} {M : Mem} {R : Option Value → Mem → Prop} {t0 : Int32} (hv : At l G (d + 4) mX8_nextToken 34 [some (.ref (G.1 100)), some (.int t0), some (.int (M 100 17))] [] M R) : At l G (d + 4) mX8_nextToken 28 [some (.ref (G.1 100)), none, none] [.int t0] M R := by
  refine a_istore_n (vs' := [some (.ref (G.1 100)), some (.int t0), none]) eX8_nextToken_28 rfl (Nat.le_of_ble_eq_true rfl) rfl ?_
  refine a_aload_n eX8_nextToken_29 rfl ?_
  refine gX8_17 eX8_nextToken_30 fl_X8_245 ?_
  refine a_istore_n (vs' := [some (.ref (G.1 100)), some (.int t0), some (.int (M 100 17))]) eX8_nextToken_33 rfl (Nat.le_of_ble_eq_true rfl) rfl ?_
  exact a_weak [true, true, true] rfl rfl hv
theorem bX8_nextToken_34 {l : Launch} {G : GT} {d : Nat} {M : Mem} {R : Option Value → Mem → Prop} {v1 : Int32} {v2 : Int32} (hv : ((M 100 15) ≤ (M 100 17) → At l G (d + 4) mX8_nextToken 72 [some (.ref (G.1 100)), some (.int v1), some (.int v2)] [] M R) ∧ (¬ ((M 100 15) ≤ (M 100 17)) → vp_in (M 100 17) 96 ∧ ((M 114 (ix (M 100 17))) = 32 → At l G (d + 4) mX8_nextToken 34 [some (.ref (G.1 100)), some (.int v1), some (.int v2)] [] (um M 100 17 ((M 100 17) + 1)) R) ∧ (¬ ((M 114 (ix (M 100 17))) = 32) → At l G (d + 4) mX8_nextToken 72 [some (.ref (G.1 100)), some (.int v1), some (.int v2)] [] M R))) : At l G (d + 4) mX8_nextToken 34 [some (.ref (G.1 100)), some (.int v1), some (.int v2)] [] M R := by
  refine a_aload_n eX8_nextToken_34 rfl ?_
  refine gX8_17 eX8_nextToken_35 fl_X8_245 ?_
  refine a_aload_n eX8_nextToken_38 rfl ?_
  refine gX8_15 eX8_nextToken_39 fl_X8_233 ?_
  refine a_icmp_ge (tgt := 72) eX8_nextToken_42 (by decide) (fun w1 => ?_) (fun w1 => ?_)
  · replace hv := hv.1 w1
    exact a_weak [true, true, true] rfl rfl hv
  · replace hv := hv.2 w1
    refine a_aload_n eX8_nextToken_45 rfl ?_
    refine gX8_14 eX8_nextToken_46 fl_X8_49 ?_
    refine a_aload_n eX8_nextToken_49 rfl ?_
    refine gX8_17 eX8_nextToken_50 fl_X8_245 ?_
    obtain ⟨h2, hv⟩ := hv
    refine a_iald eX8_nextToken_53 sA114 kA114 h2 ?_
    refine a_bipush (v := 32) eX8_nextToken_54 (by decide) ?_
    refine a_icmp_ne (tgt := 72) eX8_nextToken_56 (by decide) (fun w3 => ?_) (fun w3 => ?_)
    · replace hv := hv.2 w3
      exact a_weak [true, true, true] rfl rfl hv
    · replace hv := hv.1 w3
      refine a_aload_n eX8_nextToken_59 rfl ?_
      refine a_dup eX8_nextToken_60 rfl ?_
      refine gX8_17 eX8_nextToken_61 fl_X8_245 ?_
      refine a_iconst (v := 1) eX8_nextToken_64 (by decide) ?_
      refine a_iadd eX8_nextToken_65 ?_
      refine pX8_17 eX8_nextToken_66 fl_X8_245 ?_
      refine a_goto (tgt := 34) eX8_nextToken_69 (by decide) ?_
      exact a_weak [true, true, true] rfl rfl hv
theorem bX8_nextToken_72 {l : Launch} {G : GT} {d : Nat} {M : Mem} {R : Option Value → Mem → Prop} {v1 : Int32} {v2 : Int32} (hv : (v1 = 0 → At l G (d + 4) mX8_nextToken 88 [some (.ref (G.1 100)), none, none] [] M R) ∧ (¬ (v1 = 0) → (v2 = (M 100 17) → At l G (d + 4) mX8_nextToken 89 [some (.ref (G.1 100)), none, none] [.int 1] M R) ∧ (¬ (v2 = (M 100 17)) → At l G (d + 4) mX8_nextToken 88 [some (.ref (G.1 100)), none, none] [] M R))) : At l G (d + 4) mX8_nextToken 72 [some (.ref (G.1 100)), some (.int v1), some (.int v2)] [] M R := by
  refine a_iload_n eX8_nextToken_72 rfl ?_
  refine a_if_eq (tgt := 88) eX8_nextToken_73 (by decide) (fun w1 => ?_) (fun w1 => ?_)
  · replace hv := hv.1 w1
    exact a_weak [true, false, false] rfl rfl hv
  · replace hv := hv.2 w1
    refine a_iload_n eX8_nextToken_76 rfl ?_
    refine a_aload_n eX8_nextToken_77 rfl ?_
    refine gX8_17 eX8_nextToken_78 fl_X8_245 ?_
    refine a_icmp_ne (tgt := 88) eX8_nextToken_81 (by decide) (fun w2 => ?_) (fun w2 => ?_)
    · replace hv := hv.2 w2
      exact a_weak [true, false, false] rfl rfl hv
    · replace hv := hv.1 w2
      refine a_iconst (v := 1) eX8_nextToken_84 (by decide) ?_
      refine a_goto (tgt := 89) eX8_nextToken_85 (by decide) ?_
      exact a_weak [true, false, false] rfl rfl hv
theorem bX8_nextToken_89 {l : Launch} {G : GT} {d : Nat} {M : Mem} {R : Option Value → Mem → Prop} {t0 : Int32} (hv : (((um M 100 16 (M 100 17)) 100 16) = ((um M 100 16 (M 100 17)) 100 15) → R none (um (um M 100 16 (M 100 17)) 100 18 0)) ∧ (¬ (((um M 100 16 (M 100 17)) 100 16) = ((um M 100 16 (M 100 17)) 100 15)) → (((um M 100 16 (M 100 17)) 100 15) ≤ ((um M 100 16 (M 100 17)) 100 16) → (((um M 100 16 (M 100 17)) 100 15) ≤ ((um M 100 16 (M 100 17)) 100 16) → vp_in ((um (um M 100 16 (M 100 17)) 100 18 3) 100 16) 96 ∧ ∀ M5 : Mem, M5 = um (um (um M 100 16 (M 100 17)) 100 18 3) 100 20 ((um (um M 100 16 (M 100 17)) 100 18 3) 114 (ix ((um (um M 100 16 (M 100 17)) 100 18 3) 100 16))) → R none (um M5 100 17 ((M5 100 17) + 1))) ∧ (¬ (((um M 100 16 (M 100 17)) 100 15) ≤ ((um M 100 16 (M 100 17)) 100 16)) → vp_in ((um M 100 16 (M 100 17)) 100 16) 96 ∧ (48 ≤ ((um M 100 16 (M 100 17)) 114 (ix ((um M 100 16 (M 100 17)) 100 16))) → (((um M 100 16 (M 100 17)) 114 (ix ((um M 100 16 (M 100 17)) 100 16))) ≤ 57 → At l G (d + 4) mX8_nextToken 214 [some (.ref (G.1 100)), some (.int t0), none] [] (um (um M 100 16 (M 100 17)) 100 19 0) R) ∧ (¬ (((um M 100 16 (M 100 17)) 114 (ix ((um M 100 16 (M 100 17)) 100 16))) ≤ 57) → vp_in ((um (um M 100 16 (M 100 17)) 100 18 3) 100 16) 96 ∧ ∀ M8 : Mem, M8 = um (um (um M 100 16 (M 100 17)) 100 18 3) 100 20 ((um (um M 100 16 (M 100 17)) 100 18 3) 114 (ix ((um (um M 100 16 (M 100 17)) 100 18 3) 100 16))) → R none (um M8 100 17 ((M8 100 17) + 1)))) ∧ (¬ (48 ≤ ((um M 100 16 (M 100 17)) 114 (ix ((um M 100 16 (M 100 17)) 100 16)))) → vp_in ((um (um M 100 16 (M 100 17)) 100 18 3) 100 16) 96 ∧ ∀ M8 : Mem, M8 = um (um (um M 100 16 (M 100 17)) 100 18 3) 100 20 ((um (um M 100 16 (M 100 17)) 100 18 3) 114 (ix ((um (um M 100 16 (M 100 17)) 100 18 3) 100 16))) → R none (um M8 100 17 ((M8 100 17) + 1))))) ∧ (¬ (((um M 100 16 (M 100 17)) 100 15) ≤ ((um M 100 16 (M 100 17)) 100 16)) → vp_in ((um M 100 16 (M 100 17)) 100 16) 96 ∧ (97 ≤ ((um M 100 16 (M 100 17)) 114 (ix ((um M 100 16 (M 100 17)) 100 16))) → (((um M 100 16 (M 100 17)) 114 (ix ((um M 100 16 (M 100 17)) 100 16))) ≤ 122 → At l G (d + 4) mX8_nextToken 128 [some (.ref (G.1 100)), some (.int t0), none] [] (um M 100 16 (M 100 17)) R) ∧ (¬ (((um M 100 16 (M 100 17)) 114 (ix ((um M 100 16 (M 100 17)) 100 16))) ≤ 122) → (((um M 100 16 (M 100 17)) 100 15) ≤ ((um M 100 16 (M 100 17)) 100 16) → vp_in ((um (um M 100 16 (M 100 17)) 100 18 3) 100 16) 96 ∧ ∀ M14 : Mem, M14 = um (um (um M 100 16 (M 100 17)) 100 18 3) 100 20 ((um (um M 100 16 (M 100 17)) 100 18 3) 114 (ix ((um (um M 100 16 (M 100 17)) 100 18 3) 100 16))) → R none (um M14 100 17 ((M14 100 17) + 1))) ∧ (¬ (((um M 100 16 (M 100 17)) 100 15) ≤ ((um M 100 16 (M 100 17)) 100 16)) → vp_in ((um M 100 16 (M 100 17)) 100 16) 96 ∧ (48 ≤ ((um M 100 16 (M 100 17)) 114 (ix ((um M 100 16 (M 100 17)) 100 16))) → (((um M 100 16 (M 100 17)) 114 (ix ((um M 100 16 (M 100 17)) 100 16))) ≤ 57 → At l G (d + 4) mX8_nextToken 214 [some (.ref (G.1 100)), some (.int t0), none] [] (um (um M 100 16 (M 100 17)) 100 19 0) R) ∧ (¬ (((um M 100 16 (M 100 17)) 114 (ix ((um M 100 16 (M 100 17)) 100 16))) ≤ 57) → vp_in ((um (um M 100 16 (M 100 17)) 100 18 3) 100 16) 96 ∧ ∀ M17 : Mem, M17 = um (um (um M 100 16 (M 100 17)) 100 18 3) 100 20 ((um (um M 100 16 (M 100 17)) 100 18 3) 114 (ix ((um (um M 100 16 (M 100 17)) 100 18 3) 100 16))) → R none (um M17 100 17 ((M17 100 17) + 1)))) ∧ (¬ (48 ≤ ((um M 100 16 (M 100 17)) 114 (ix ((um M 100 16 (M 100 17)) 100 16)))) → vp_in ((um (um M 100 16 (M 100 17)) 100 18 3) 100 16) 96 ∧ ∀ M17 : Mem, M17 = um (um (um M 100 16 (M 100 17)) 100 18 3) 100 20 ((um (um M 100 16 (M 100 17)) 100 18 3) 114 (ix ((um (um M 100 16 (M 100 17)) 100 18 3) 100 16))) → R none (um M17 100 17 ((M17 100 17) + 1)))))) ∧ (¬ (97 ≤ ((um M 100 16 (M 100 17)) 114 (ix ((um M 100 16 (M 100 17)) 100 16)))) → (((um M 100 16 (M 100 17)) 100 15) ≤ ((um M 100 16 (M 100 17)) 100 16) → vp_in ((um (um M 100 16 (M 100 17)) 100 18 3) 100 16) 96 ∧ ∀ M14 : Mem, M14 = um (um (um M 100 16 (M 100 17)) 100 18 3) 100 20 ((um (um M 100 16 (M 100 17)) 100 18 3) 114 (ix ((um (um M 100 16 (M 100 17)) 100 18 3) 100 16))) → R none (um M14 100 17 ((M14 100 17) + 1))) ∧ (¬ (((um M 100 16 (M 100 17)) 100 15) ≤ ((um M 100 16 (M 100 17)) 100 16)) → vp_in ((um M 100 16 (M 100 17)) 100 16) 96 ∧ (48 ≤ ((um M 100 16 (M 100 17)) 114 (ix ((um M 100 16 (M 100 17)) 100 16))) → (((um M 100 16 (M 100 17)) 114 (ix ((um M 100 16 (M 100 17)) 100 16))) ≤ 57 → At l G (d + 4) mX8_nextToken 214 [some (.ref (G.1 100)), some (.int t0), none] [] (um (um M 100 16 (M 100 17)) 100 19 0) R) ∧ (¬ (((um M 100 16 (M 100 17)) 114 (ix ((um M 100 16 (M 100 17)) 100 16))) ≤ 57) → vp_in ((um (um M 100 16 (M 100 17)) 100 18 3) 100 16) 96 ∧ ∀ M17 : Mem, M17 = um (um (um M 100 16 (M 100 17)) 100 18 3) 100 20 ((um (um M 100 16 (M 100 17)) 100 18 3) 114 (ix ((um (um M 100 16 (M 100 17)) 100 18 3) 100 16))) → R none (um M17 100 17 ((M17 100 17) + 1)))) ∧ (¬ (48 ≤ ((um M 100 16 (M 100 17)) 114 (ix ((um M 100 16 (M 100 17)) 100 16)))) → vp_in ((um (um M 100 16 (M 100 17)) 100 18 3) 100 16) 96 ∧ ∀ M17 : Mem, M17 = um (um (um M 100 16 (M 100 17)) 100 18 3) 100 20 ((um (um M 100 16 (M 100 17)) 100 18 3) 114 (ix ((um (um M 100 16 (M 100 17)) 100 18 3) 100 16))) → R none (um M17 100 17 ((M17 100 17) + 1)))))))) : At l G (d + 4) mX8_nextToken 89 [some (.ref (G.1 100)), none, none] [.int t0] M R := by
  refine a_istore_n (vs' := [some (.ref (G.1 100)), some (.int t0), none]) eX8_nextToken_89 rfl (Nat.le_of_ble_eq_true rfl) rfl ?_
  refine a_aload_n eX8_nextToken_90 rfl ?_
  refine a_aload_n eX8_nextToken_91 rfl ?_
  refine gX8_17 eX8_nextToken_92 fl_X8_245 ?_
  refine pX8_16 eX8_nextToken_95 fl_X8_251 ?_
  refine a_aload_n eX8_nextToken_98 rfl ?_
  refine gX8_16 eX8_nextToken_99 fl_X8_251 ?_
  refine a_aload_n eX8_nextToken_102 rfl ?_
  refine gX8_15 eX8_nextToken_103 fl_X8_233 ?_
  refine a_icmp_ne (tgt := 117) eX8_nextToken_106 (by decide) (fun w1 => ?_) (fun w1 => ?_)
  · replace hv := hv.2 w1
    refine a_aload_n eX8_nextToken_117 rfl ?_
    refine a_aload_n eX8_nextToken_118 rfl ?_
    refine gX8_16 eX8_nextToken_119 fl_X8_251 ?_
    refine qX8_254 rfl eX8_nextToken_122 (Nat.le_of_ble_eq_true rfl) ?_
    refine Tr.of rfl (Nat.le_of_ble_eq_true rfl) (vs := [some (.ref (G.1 100)), some (.int ((um M 100 16 (M 100 17)) 100 16))]) rfl ?_
    refine a_iload_n eX8_isLetter_0 rfl ?_
    refine a_aload_n eX8_isLetter_1 rfl ?_
    refine gX8_15 eX8_isLetter_2 fl_X8_233 ?_
    refine a_icmp_ge (tgt := 31) eX8_isLetter_5 (by decide) (fun w2 => ?_) (fun w2 => ?_)
    · replace hv := hv.1 w2
      refine a_iconst (v := 0) eX8_isLetter_31 (by decide) ?_
      refine a_iret eX8_isLetter_32 rfl rfl (ret_i ?_)
      refine a_if_eq (tgt := 198) eX8_nextToken_125 (by decide) (fun _ => ?_) (fun h => absurd h (by decide))
      refine a_aload_n eX8_nextToken_198 rfl ?_
      refine a_aload_n eX8_nextToken_199 rfl ?_
      refine gX8_16 eX8_nextToken_200 fl_X8_251 ?_
      refine qX8_260 rfl eX8_nextToken_203 (Nat.le_of_ble_eq_true rfl) ?_
      refine Tr.of rfl (Nat.le_of_ble_eq_true rfl) (vs := [some (.ref (G.1 100)), some (.int ((um M 100 16 (M 100 17)) 100 16))]) rfl ?_
      refine a_iload_n eX8_isDigit_0 rfl ?_
      refine a_aload_n eX8_isDigit_1 rfl ?_
      refine gX8_15 eX8_isDigit_2 fl_X8_233 ?_
      refine a_icmp_ge (tgt := 31) eX8_isDigit_5 (by decide) (fun w3 => ?_) (fun w3 => ?_)
      · replace hv := hv.1 w3
        refine a_iconst (v := 0) eX8_isDigit_31 (by decide) ?_
        refine a_iret eX8_isDigit_32 rfl rfl (ret_i ?_)
        refine a_if_eq (tgt := 311) eX8_nextToken_206 (by decide) (fun _ => ?_) (fun h => absurd h (by decide))
        refine a_aload_n eX8_nextToken_311 rfl ?_
        refine a_iconst (v := 3) eX8_nextToken_312 (by decide) ?_
        refine pX8_18 eX8_nextToken_313 fl_X8_248 ?_
        refine a_aload_n eX8_nextToken_316 rfl ?_
        refine a_aload_n eX8_nextToken_317 rfl ?_
        refine gX8_14 eX8_nextToken_318 fl_X8_49 ?_
        refine a_aload_n eX8_nextToken_321 rfl ?_
        refine gX8_16 eX8_nextToken_322 fl_X8_251 ?_
        obtain ⟨h4, hv⟩ := hv
        refine a_iald eX8_nextToken_325 sA114 kA114 h4 ?_
        refine pX8_20 eX8_nextToken_326 fl_X8_257 ?_
        refine a_nm (fun M5 eM5 => ?_)
        replace hv := hv M5 eM5
        refine a_aload_n eX8_nextToken_329 rfl ?_
        refine a_dup eX8_nextToken_330 rfl ?_
        refine gX8_17 eX8_nextToken_331 fl_X8_245 ?_
        refine a_iconst (v := 1) eX8_nextToken_334 (by decide) ?_
        refine a_iadd eX8_nextToken_335 ?_
        refine pX8_17 eX8_nextToken_336 fl_X8_245 ?_
        exact a_vret eX8_nextToken_339 rfl hv
      · replace hv := hv.2 w3
        refine a_aload_n eX8_isDigit_8 rfl ?_
        refine gX8_14 eX8_isDigit_9 fl_X8_49 ?_
        refine a_iload_n eX8_isDigit_12 rfl ?_
        obtain ⟨h6, hv⟩ := hv
        refine a_iald eX8_isDigit_13 sA114 kA114 h6 ?_
        refine a_i2l eX8_isDigit_14 ?_
        refine a_ldc2i 48 eX8_isDigit_15 kl_X8_241 (by decide) ?_
        refine a_ldc2i 57 eX8_isDigit_18 kl_X8_243 (by decide) ?_
        refine qX8_68 rfl eX8_isDigit_21 (Nat.le_of_ble_eq_true rfl) ?_
        refine in_isIn (v := (um M 100 16 (M 100 17)) 114 (ix ((um M 100 16 (M 100 17)) 100 16))) (lo := 48) (hi := 57) ⟨fun w9 => ⟨fun w10 => ret_i ?_, fun w10 => ret_i ?_⟩, fun w9 => ret_i ?_⟩
        · replace hv := (hv.1 w9).1 w10
          refine a_if_eq (tgt := 31) eX8_isDigit_24 (by decide) (fun h => absurd h (by decide)) (fun _ => ?_)
          refine a_iconst (v := 1) eX8_isDigit_27 (by decide) ?_
          refine a_goto (tgt := 32) eX8_isDigit_28 (by decide) ?_
          refine a_iret eX8_isDigit_32 rfl rfl (ret_i ?_)
          refine a_if_eq (tgt := 311) eX8_nextToken_206 (by decide) (fun h => absurd h (by decide)) (fun _ => ?_)
          refine a_aload_n eX8_nextToken_209 rfl ?_
          refine a_iconst (v := 0) eX8_nextToken_210 (by decide) ?_
          refine pX8_19 eX8_nextToken_211 fl_X8_263 ?_
          exact a_weak [true, true, false] rfl rfl hv
        · replace hv := (hv.1 w9).2 w10
          refine a_if_eq (tgt := 31) eX8_isDigit_24 (by decide) (fun _ => ?_) (fun h => absurd h (by decide))
          refine a_iconst (v := 0) eX8_isDigit_31 (by decide) ?_
          refine a_iret eX8_isDigit_32 rfl rfl (ret_i ?_)
          refine a_if_eq (tgt := 311) eX8_nextToken_206 (by decide) (fun _ => ?_) (fun h => absurd h (by decide))
          refine a_aload_n eX8_nextToken_311 rfl ?_
          refine a_iconst (v := 3) eX8_nextToken_312 (by decide) ?_
          refine pX8_18 eX8_nextToken_313 fl_X8_248 ?_
          refine a_aload_n eX8_nextToken_316 rfl ?_
          refine a_aload_n eX8_nextToken_317 rfl ?_
          refine gX8_14 eX8_nextToken_318 fl_X8_49 ?_
          refine a_aload_n eX8_nextToken_321 rfl ?_
          refine gX8_16 eX8_nextToken_322 fl_X8_251 ?_
          obtain ⟨h7, hv⟩ := hv
          refine a_iald eX8_nextToken_325 sA114 kA114 h7 ?_
          refine pX8_20 eX8_nextToken_326 fl_X8_257 ?_
          refine a_nm (fun M8 eM8 => ?_)
          replace hv := hv M8 eM8
          refine a_aload_n eX8_nextToken_329 rfl ?_
          refine a_dup eX8_nextToken_330 rfl ?_
          refine gX8_17 eX8_nextToken_331 fl_X8_245 ?_
          refine a_iconst (v := 1) eX8_nextToken_334 (by decide) ?_
          refine a_iadd eX8_nextToken_335 ?_
          refine pX8_17 eX8_nextToken_336 fl_X8_245 ?_
          exact a_vret eX8_nextToken_339 rfl hv
        · replace hv := hv.2 w9
          refine a_if_eq (tgt := 31) eX8_isDigit_24 (by decide) (fun _ => ?_) (fun h => absurd h (by decide))
          refine a_iconst (v := 0) eX8_isDigit_31 (by decide) ?_
          refine a_iret eX8_isDigit_32 rfl rfl (ret_i ?_)
          refine a_if_eq (tgt := 311) eX8_nextToken_206 (by decide) (fun _ => ?_) (fun h => absurd h (by decide))
          refine a_aload_n eX8_nextToken_311 rfl ?_
          refine a_iconst (v := 3) eX8_nextToken_312 (by decide) ?_
          refine pX8_18 eX8_nextToken_313 fl_X8_248 ?_
          refine a_aload_n eX8_nextToken_316 rfl ?_
          refine a_aload_n eX8_nextToken_317 rfl ?_
          refine gX8_14 eX8_nextToken_318 fl_X8_49 ?_
          refine a_aload_n eX8_nextToken_321 rfl ?_
          refine gX8_16 eX8_nextToken_322 fl_X8_251 ?_
          obtain ⟨h7, hv⟩ := hv
          refine a_iald eX8_nextToken_325 sA114 kA114 h7 ?_
          refine pX8_20 eX8_nextToken_326 fl_X8_257 ?_
          refine a_nm (fun M8 eM8 => ?_)
          replace hv := hv M8 eM8
          refine a_aload_n eX8_nextToken_329 rfl ?_
          refine a_dup eX8_nextToken_330 rfl ?_
          refine gX8_17 eX8_nextToken_331 fl_X8_245 ?_
          refine a_iconst (v := 1) eX8_nextToken_334 (by decide) ?_
          refine a_iadd eX8_nextToken_335 ?_
          refine pX8_17 eX8_nextToken_336 fl_X8_245 ?_
          exact a_vret eX8_nextToken_339 rfl hv
    · replace hv := hv.2 w2
      refine a_aload_n eX8_isLetter_8 rfl ?_
      refine gX8_14 eX8_isLetter_9 fl_X8_49 ?_
      refine a_iload_n eX8_isLetter_12 rfl ?_
      obtain ⟨h11, hv⟩ := hv
      refine a_iald eX8_isLetter_13 sA114 kA114 h11 ?_
      refine a_i2l eX8_isLetter_14 ?_
      refine a_ldc2i 97 eX8_isLetter_15 kl_X8_237 (by decide) ?_
      refine a_ldc2i 122 eX8_isLetter_18 kl_X8_239 (by decide) ?_
      refine qX8_68 rfl eX8_isLetter_21 (Nat.le_of_ble_eq_true rfl) ?_
      refine in_isIn (v := (um M 100 16 (M 100 17)) 114 (ix ((um M 100 16 (M 100 17)) 100 16))) (lo := 97) (hi := 122) ⟨fun w20 => ⟨fun w21 => ret_i ?_, fun w21 => ret_i ?_⟩, fun w20 => ret_i ?_⟩
      · replace hv := (hv.1 w20).1 w21
        refine a_if_eq (tgt := 31) eX8_isLetter_24 (by decide) (fun h => absurd h (by decide)) (fun _ => ?_)
        refine a_iconst (v := 1) eX8_isLetter_27 (by decide) ?_
        refine a_goto (tgt := 32) eX8_isLetter_28 (by decide) ?_
        refine a_iret eX8_isLetter_32 rfl rfl (ret_i ?_)
        refine a_if_eq (tgt := 198) eX8_nextToken_125 (by decide) (fun h => absurd h (by decide)) (fun _ => ?_)
        exact a_weak [true, true, false] rfl rfl hv
      · replace hv := (hv.1 w20).2 w21
        refine a_if_eq (tgt := 31) eX8_isLetter_24 (by decide) (fun _ => ?_) (fun h => absurd h (by decide))
        refine a_iconst (v := 0) eX8_isLetter_31 (by decide) ?_
        refine a_iret eX8_isLetter_32 rfl rfl (ret_i ?_)
        refine a_if_eq (tgt := 198) eX8_nextToken_125 (by decide) (fun _ => ?_) (fun h => absurd h (by decide))
        refine a_aload_n eX8_nextToken_198 rfl ?_
        refine a_aload_n eX8_nextToken_199 rfl ?_
        refine gX8_16 eX8_nextToken_200 fl_X8_251 ?_
        refine qX8_260 rfl eX8_nextToken_203 (Nat.le_of_ble_eq_true rfl) ?_
        refine Tr.of rfl (Nat.le_of_ble_eq_true rfl) (vs := [some (.ref (G.1 100)), some (.int ((um M 100 16 (M 100 17)) 100 16))]) rfl ?_
        refine a_iload_n eX8_isDigit_0 rfl ?_
        refine a_aload_n eX8_isDigit_1 rfl ?_
        refine gX8_15 eX8_isDigit_2 fl_X8_233 ?_
        refine a_icmp_ge (tgt := 31) eX8_isDigit_5 (by decide) (fun w12 => ?_) (fun w12 => ?_)
        · replace hv := hv.1 w12
          refine a_iconst (v := 0) eX8_isDigit_31 (by decide) ?_
          refine a_iret eX8_isDigit_32 rfl rfl (ret_i ?_)
          refine a_if_eq (tgt := 311) eX8_nextToken_206 (by decide) (fun _ => ?_) (fun h => absurd h (by decide))
          refine a_aload_n eX8_nextToken_311 rfl ?_
          refine a_iconst (v := 3) eX8_nextToken_312 (by decide) ?_
          refine pX8_18 eX8_nextToken_313 fl_X8_248 ?_
          refine a_aload_n eX8_nextToken_316 rfl ?_
          refine a_aload_n eX8_nextToken_317 rfl ?_
          refine gX8_14 eX8_nextToken_318 fl_X8_49 ?_
          refine a_aload_n eX8_nextToken_321 rfl ?_
          refine gX8_16 eX8_nextToken_322 fl_X8_251 ?_
          obtain ⟨h13, hv⟩ := hv
          refine a_iald eX8_nextToken_325 sA114 kA114 h13 ?_
          refine pX8_20 eX8_nextToken_326 fl_X8_257 ?_
          refine a_nm (fun M14 eM14 => ?_)
          replace hv := hv M14 eM14
          refine a_aload_n eX8_nextToken_329 rfl ?_
          refine a_dup eX8_nextToken_330 rfl ?_
          refine gX8_17 eX8_nextToken_331 fl_X8_245 ?_
          refine a_iconst (v := 1) eX8_nextToken_334 (by decide) ?_
          refine a_iadd eX8_nextToken_335 ?_
          refine pX8_17 eX8_nextToken_336 fl_X8_245 ?_
          exact a_vret eX8_nextToken_339 rfl hv
        · replace hv := hv.2 w12
          refine a_aload_n eX8_isDigit_8 rfl ?_
          refine gX8_14 eX8_isDigit_9 fl_X8_49 ?_
          refine a_iload_n eX8_isDigit_12 rfl ?_
          obtain ⟨h15, hv⟩ := hv
          refine a_iald eX8_isDigit_13 sA114 kA114 h15 ?_
          refine a_i2l eX8_isDigit_14 ?_
          refine a_ldc2i 48 eX8_isDigit_15 kl_X8_241 (by decide) ?_
          refine a_ldc2i 57 eX8_isDigit_18 kl_X8_243 (by decide) ?_
          refine qX8_68 rfl eX8_isDigit_21 (Nat.le_of_ble_eq_true rfl) ?_
          refine in_isIn (v := (um M 100 16 (M 100 17)) 114 (ix ((um M 100 16 (M 100 17)) 100 16))) (lo := 48) (hi := 57) ⟨fun w18 => ⟨fun w19 => ret_i ?_, fun w19 => ret_i ?_⟩, fun w18 => ret_i ?_⟩
          · replace hv := (hv.1 w18).1 w19
            refine a_if_eq (tgt := 31) eX8_isDigit_24 (by decide) (fun h => absurd h (by decide)) (fun _ => ?_)
            refine a_iconst (v := 1) eX8_isDigit_27 (by decide) ?_
            refine a_goto (tgt := 32) eX8_isDigit_28 (by decide) ?_
            refine a_iret eX8_isDigit_32 rfl rfl (ret_i ?_)
            refine a_if_eq (tgt := 311) eX8_nextToken_206 (by decide) (fun h => absurd h (by decide)) (fun _ => ?_)
            refine a_aload_n eX8_nextToken_209 rfl ?_
            refine a_iconst (v := 0) eX8_nextToken_210 (by decide) ?_
            refine pX8_19 eX8_nextToken_211 fl_X8_263 ?_
            exact a_weak [true, true, false] rfl rfl hv
          · replace hv := (hv.1 w18).2 w19
            refine a_if_eq (tgt := 31) eX8_isDigit_24 (by decide) (fun _ => ?_) (fun h => absurd h (by decide))
            refine a_iconst (v := 0) eX8_isDigit_31 (by decide) ?_
            refine a_iret eX8_isDigit_32 rfl rfl (ret_i ?_)
            refine a_if_eq (tgt := 311) eX8_nextToken_206 (by decide) (fun _ => ?_) (fun h => absurd h (by decide))
            refine a_aload_n eX8_nextToken_311 rfl ?_
            refine a_iconst (v := 3) eX8_nextToken_312 (by decide) ?_
            refine pX8_18 eX8_nextToken_313 fl_X8_248 ?_
            refine a_aload_n eX8_nextToken_316 rfl ?_
            refine a_aload_n eX8_nextToken_317 rfl ?_
            refine gX8_14 eX8_nextToken_318 fl_X8_49 ?_
            refine a_aload_n eX8_nextToken_321 rfl ?_
            refine gX8_16 eX8_nextToken_322 fl_X8_251 ?_
            obtain ⟨h16, hv⟩ := hv
            refine a_iald eX8_nextToken_325 sA114 kA114 h16 ?_
            refine pX8_20 eX8_nextToken_326 fl_X8_257 ?_
            refine a_nm (fun M17 eM17 => ?_)
            replace hv := hv M17 eM17
            refine a_aload_n eX8_nextToken_329 rfl ?_
            refine a_dup eX8_nextToken_330 rfl ?_
            refine gX8_17 eX8_nextToken_331 fl_X8_245 ?_
            refine a_iconst (v := 1) eX8_nextToken_334 (by decide) ?_
            refine a_iadd eX8_nextToken_335 ?_
            refine pX8_17 eX8_nextToken_336 fl_X8_245 ?_
            exact a_vret eX8_nextToken_339 rfl hv
          · replace hv := hv.2 w18
            refine a_if_eq (tgt := 31) eX8_isDigit_24 (by decide) (fun _ => ?_) (fun h => absurd h (by decide))
            refine a_iconst (v := 0) eX8_isDigit_31 (by decide) ?_
            refine a_iret eX8_isDigit_32 rfl rfl (ret_i ?_)
            refine a_if_eq (tgt := 311) eX8_nextToken_206 (by decide) (fun _ => ?_) (fun h => absurd h (by decide))
            refine a_aload_n eX8_nextToken_311 rfl ?_
            refine a_iconst (v := 3) eX8_nextToken_312 (by decide) ?_
            refine pX8_18 eX8_nextToken_313 fl_X8_248 ?_
            refine a_aload_n eX8_nextToken_316 rfl ?_
            refine a_aload_n eX8_nextToken_317 rfl ?_
            refine gX8_14 eX8_nextToken_318 fl_X8_49 ?_
            refine a_aload_n eX8_nextToken_321 rfl ?_
            refine gX8_16 eX8_nextToken_322 fl_X8_251 ?_
            obtain ⟨h16, hv⟩ := hv
            refine a_iald eX8_nextToken_325 sA114 kA114 h16 ?_
            refine pX8_20 eX8_nextToken_326 fl_X8_257 ?_
            refine a_nm (fun M17 eM17 => ?_)
            replace hv := hv M17 eM17
            refine a_aload_n eX8_nextToken_329 rfl ?_
            refine a_dup eX8_nextToken_330 rfl ?_
            refine gX8_17 eX8_nextToken_331 fl_X8_245 ?_
            refine a_iconst (v := 1) eX8_nextToken_334 (by decide) ?_
            refine a_iadd eX8_nextToken_335 ?_
            refine pX8_17 eX8_nextToken_336 fl_X8_245 ?_
            exact a_vret eX8_nextToken_339 rfl hv
      · replace hv := hv.2 w20
        refine a_if_eq (tgt := 31) eX8_isLetter_24 (by decide) (fun _ => ?_) (fun h => absurd h (by decide))
        refine a_iconst (v := 0) eX8_isLetter_31 (by decide) ?_
        refine a_iret eX8_isLetter_32 rfl rfl (ret_i ?_)
        refine a_if_eq (tgt := 198) eX8_nextToken_125 (by decide) (fun _ => ?_) (fun h => absurd h (by decide))
        refine a_aload_n eX8_nextToken_198 rfl ?_
        refine a_aload_n eX8_nextToken_199 rfl ?_
        refine gX8_16 eX8_nextToken_200 fl_X8_251 ?_
        refine qX8_260 rfl eX8_nextToken_203 (Nat.le_of_ble_eq_true rfl) ?_
        refine Tr.of rfl (Nat.le_of_ble_eq_true rfl) (vs := [some (.ref (G.1 100)), some (.int ((um M 100 16 (M 100 17)) 100 16))]) rfl ?_
        refine a_iload_n eX8_isDigit_0 rfl ?_
        refine a_aload_n eX8_isDigit_1 rfl ?_
        refine gX8_15 eX8_isDigit_2 fl_X8_233 ?_
        refine a_icmp_ge (tgt := 31) eX8_isDigit_5 (by decide) (fun w12 => ?_) (fun w12 => ?_)
        · replace hv := hv.1 w12
          refine a_iconst (v := 0) eX8_isDigit_31 (by decide) ?_
          refine a_iret eX8_isDigit_32 rfl rfl (ret_i ?_)
          refine a_if_eq (tgt := 311) eX8_nextToken_206 (by decide) (fun _ => ?_) (fun h => absurd h (by decide))
          refine a_aload_n eX8_nextToken_311 rfl ?_
          refine a_iconst (v := 3) eX8_nextToken_312 (by decide) ?_
          refine pX8_18 eX8_nextToken_313 fl_X8_248 ?_
          refine a_aload_n eX8_nextToken_316 rfl ?_
          refine a_aload_n eX8_nextToken_317 rfl ?_
          refine gX8_14 eX8_nextToken_318 fl_X8_49 ?_
          refine a_aload_n eX8_nextToken_321 rfl ?_
          refine gX8_16 eX8_nextToken_322 fl_X8_251 ?_
          obtain ⟨h13, hv⟩ := hv
          refine a_iald eX8_nextToken_325 sA114 kA114 h13 ?_
          refine pX8_20 eX8_nextToken_326 fl_X8_257 ?_
          refine a_nm (fun M14 eM14 => ?_)
          replace hv := hv M14 eM14
          refine a_aload_n eX8_nextToken_329 rfl ?_
          refine a_dup eX8_nextToken_330 rfl ?_
          refine gX8_17 eX8_nextToken_331 fl_X8_245 ?_
          refine a_iconst (v := 1) eX8_nextToken_334 (by decide) ?_
          refine a_iadd eX8_nextToken_335 ?_
          refine pX8_17 eX8_nextToken_336 fl_X8_245 ?_
          exact a_vret eX8_nextToken_339 rfl hv
        · replace hv := hv.2 w12
          refine a_aload_n eX8_isDigit_8 rfl ?_
          refine gX8_14 eX8_isDigit_9 fl_X8_49 ?_
          refine a_iload_n eX8_isDigit_12 rfl ?_
          obtain ⟨h15, hv⟩ := hv
          refine a_iald eX8_isDigit_13 sA114 kA114 h15 ?_
          refine a_i2l eX8_isDigit_14 ?_
          refine a_ldc2i 48 eX8_isDigit_15 kl_X8_241 (by decide) ?_
          refine a_ldc2i 57 eX8_isDigit_18 kl_X8_243 (by decide) ?_
          refine qX8_68 rfl eX8_isDigit_21 (Nat.le_of_ble_eq_true rfl) ?_
          refine in_isIn (v := (um M 100 16 (M 100 17)) 114 (ix ((um M 100 16 (M 100 17)) 100 16))) (lo := 48) (hi := 57) ⟨fun w18 => ⟨fun w19 => ret_i ?_, fun w19 => ret_i ?_⟩, fun w18 => ret_i ?_⟩
          · replace hv := (hv.1 w18).1 w19
            refine a_if_eq (tgt := 31) eX8_isDigit_24 (by decide) (fun h => absurd h (by decide)) (fun _ => ?_)
            refine a_iconst (v := 1) eX8_isDigit_27 (by decide) ?_
            refine a_goto (tgt := 32) eX8_isDigit_28 (by decide) ?_
            refine a_iret eX8_isDigit_32 rfl rfl (ret_i ?_)
            refine a_if_eq (tgt := 311) eX8_nextToken_206 (by decide) (fun h => absurd h (by decide)) (fun _ => ?_)
            refine a_aload_n eX8_nextToken_209 rfl ?_
            refine a_iconst (v := 0) eX8_nextToken_210 (by decide) ?_
            refine pX8_19 eX8_nextToken_211 fl_X8_263 ?_
            exact a_weak [true, true, false] rfl rfl hv
          · replace hv := (hv.1 w18).2 w19
            refine a_if_eq (tgt := 31) eX8_isDigit_24 (by decide) (fun _ => ?_) (fun h => absurd h (by decide))
            refine a_iconst (v := 0) eX8_isDigit_31 (by decide) ?_
            refine a_iret eX8_isDigit_32 rfl rfl (ret_i ?_)
            refine a_if_eq (tgt := 311) eX8_nextToken_206 (by decide) (fun _ => ?_) (fun h => absurd h (by decide))
            refine a_aload_n eX8_nextToken_311 rfl ?_
            refine a_iconst (v := 3) eX8_nextToken_312 (by decide) ?_
            refine pX8_18 eX8_nextToken_313 fl_X8_248 ?_
            refine a_aload_n eX8_nextToken_316 rfl ?_
            refine a_aload_n eX8_nextToken_317 rfl ?_
            refine gX8_14 eX8_nextToken_318 fl_X8_49 ?_
            refine a_aload_n eX8_nextToken_321 rfl ?_
            refine gX8_16 eX8_nextToken_322 fl_X8_251 ?_
            obtain ⟨h16, hv⟩ := hv
            refine a_iald eX8_nextToken_325 sA114 kA114 h16 ?_
            refine pX8_20 eX8_nextToken_326 fl_X8_257 ?_
            refine a_nm (fun M17 eM17 => ?_)
            replace hv := hv M17 eM17
            refine a_aload_n eX8_nextToken_329 rfl ?_
            refine a_dup eX8_nextToken_330 rfl ?_
            refine gX8_17 eX8_nextToken_331 fl_X8_245 ?_
            refine a_iconst (v := 1) eX8_nextToken_334 (by decide) ?_
            refine a_iadd eX8_nextToken_335 ?_
            refine pX8_17 eX8_nextToken_336 fl_X8_245 ?_
            exact a_vret eX8_nextToken_339 rfl hv
          · replace hv := hv.2 w18
            refine a_if_eq (tgt := 31) eX8_isDigit_24 (by decide) (fun _ => ?_) (fun h => absurd h (by decide))
            refine a_iconst (v := 0) eX8_isDigit_31 (by decide) ?_
            refine a_iret eX8_isDigit_32 rfl rfl (ret_i ?_)
            refine a_if_eq (tgt := 311) eX8_nextToken_206 (by decide) (fun _ => ?_) (fun h => absurd h (by decide))
            refine a_aload_n eX8_nextToken_311 rfl ?_
            refine a_iconst (v := 3) eX8_nextToken_312 (by decide) ?_
            refine pX8_18 eX8_nextToken_313 fl_X8_248 ?_
            refine a_aload_n eX8_nextToken_316 rfl ?_
            refine a_aload_n eX8_nextToken_317 rfl ?_
            refine gX8_14 eX8_nextToken_318 fl_X8_49 ?_
            refine a_aload_n eX8_nextToken_321 rfl ?_
            refine gX8_16 eX8_nextToken_322 fl_X8_251 ?_
            obtain ⟨h16, hv⟩ := hv
            refine a_iald eX8_nextToken_325 sA114 kA114 h16 ?_
            refine pX8_20 eX8_nextToken_326 fl_X8_257 ?_
            refine a_nm (fun M17 eM17 => ?_)
            replace hv := hv M17 eM17
            refine a_aload_n eX8_nextToken_329 rfl ?_
            refine a_dup eX8_nextToken_330 rfl ?_
            refine gX8_17 eX8_nextToken_331 fl_X8_245 ?_
            refine a_iconst (v := 1) eX8_nextToken_334 (by decide) ?_
            refine a_iadd eX8_nextToken_335 ?_
            refine pX8_17 eX8_nextToken_336 fl_X8_245 ?_
            exact a_vret eX8_nextToken_339 rfl hv
  · replace hv := hv.1 w1
    refine a_aload_n eX8_nextToken_109 rfl ?_
    refine a_iconst (v := 0) eX8_nextToken_110 (by decide) ?_
    refine pX8_18 eX8_nextToken_111 fl_X8_248 ?_
    refine a_goto (tgt := 339) eX8_nextToken_114 (by decide) ?_
    exact a_vret eX8_nextToken_339 rfl hv
theorem bX8_nextToken_128 {l : Launch} {G : GT} {d : Nat} {M : Mem} {R : Option Value → Mem → Prop} {v1 : Int32} (hv : ((M 100 15) ≤ (M 100 17) → (v1 = 0 → At l G (d + 4) mX8_nextToken 162 [some (.ref (G.1 100)), none, none] [.int 1, .ref (G.1 100)] M R) ∧ (¬ (v1 = 0) → At l G (d + 4) mX8_nextToken 162 [some (.ref (G.1 100)), none, none] [.int 4, .ref (G.1 100)] M R)) ∧ (¬ ((M 100 15) ≤ (M 100 17)) → vp_in (M 100 17) 96 ∧ (97 ≤ (M 114 (ix (M 100 17))) → ((M 114 (ix (M 100 17))) ≤ 122 → At l G (d + 4) mX8_nextToken 128 [some (.ref (G.1 100)), some (.int v1), none] [] (um M 100 17 ((M 100 17) + 1)) R) ∧ (¬ ((M 114 (ix (M 100 17))) ≤ 122) → (v1 = 0 → At l G (d + 4) mX8_nextToken 162 [some (.ref (G.1 100)), none, none] [.int 1, .ref (G.1 100)] M R) ∧ (¬ (v1 = 0) → At l G (d + 4) mX8_nextToken 162 [some (.ref (G.1 100)), none, none] [.int 4, .ref (G.1 100)] M R))) ∧ (¬ (97 ≤ (M 114 (ix (M 100 17)))) → (v1 = 0 → At l G (d + 4) mX8_nextToken 162 [some (.ref (G.1 100)), none, none] [.int 1, .ref (G.1 100)] M R) ∧ (¬ (v1 = 0) → At l G (d + 4) mX8_nextToken 162 [some (.ref (G.1 100)), none, none] [.int 4, .ref (G.1 100)] M R)))) : At l G (d + 4) mX8_nextToken 128 [some (.ref (G.1 100)), some (.int v1), none] [] M R := by
  refine a_aload_n eX8_nextToken_128 rfl ?_
  refine a_aload_n eX8_nextToken_129 rfl ?_
  refine gX8_17 eX8_nextToken_130 fl_X8_245 ?_
  refine qX8_254 rfl eX8_nextToken_133 (Nat.le_of_ble_eq_true rfl) ?_
  refine Tr.of rfl (Nat.le_of_ble_eq_true rfl) (vs := [some (.ref (G.1 100)), some (.int (M 100 17))]) rfl ?_
  refine a_iload_n eX8_isLetter_0 rfl ?_
  refine a_aload_n eX8_isLetter_1 rfl ?_
  refine gX8_15 eX8_isLetter_2 fl_X8_233 ?_
  refine a_icmp_ge (tgt := 31) eX8_isLetter_5 (by decide) (fun w1 => ?_) (fun w1 => ?_)
  · replace hv := hv.1 w1
    refine a_iconst (v := 0) eX8_isLetter_31 (by decide) ?_
    refine a_iret eX8_isLetter_32 rfl rfl (ret_i ?_)
    refine a_if_eq (tgt := 152) eX8_nextToken_136 (by decide) (fun _ => ?_) (fun h => absurd h (by decide))
    refine a_aload_n eX8_nextToken_152 rfl ?_
    refine a_iload_n eX8_nextToken_153 rfl ?_
    refine a_if_eq (tgt := 161) eX8_nextToken_154 (by decide) (fun w2 => ?_) (fun w2 => ?_)
    · replace hv := hv.1 w2
      refine a_iconst (v := 1) eX8_nextToken_161 (by decide) ?_
      exact a_weak [true, false, false] rfl rfl hv
    · replace hv := hv.2 w2
      refine a_iconst (v := 4) eX8_nextToken_157 (by decide) ?_
      refine a_goto (tgt := 162) eX8_nextToken_158 (by decide) ?_
      exact a_weak [true, false, false] rfl rfl hv
  · replace hv := hv.2 w1
    refine a_aload_n eX8_isLetter_8 rfl ?_
    refine gX8_14 eX8_isLetter_9 fl_X8_49 ?_
    refine a_iload_n eX8_isLetter_12 rfl ?_
    obtain ⟨h3, hv⟩ := hv
    refine a_iald eX8_isLetter_13 sA114 kA114 h3 ?_
    refine a_i2l eX8_isLetter_14 ?_
    refine a_ldc2i 97 eX8_isLetter_15 kl_X8_237 (by decide) ?_
    refine a_ldc2i 122 eX8_isLetter_18 kl_X8_239 (by decide) ?_
    refine qX8_68 rfl eX8_isLetter_21 (Nat.le_of_ble_eq_true rfl) ?_
    refine in_isIn (v := M 114 (ix (M 100 17))) (lo := 97) (hi := 122) ⟨fun w5 => ⟨fun w6 => ret_i ?_, fun w6 => ret_i ?_⟩, fun w5 => ret_i ?_⟩
    · replace hv := (hv.1 w5).1 w6
      refine a_if_eq (tgt := 31) eX8_isLetter_24 (by decide) (fun h => absurd h (by decide)) (fun _ => ?_)
      refine a_iconst (v := 1) eX8_isLetter_27 (by decide) ?_
      refine a_goto (tgt := 32) eX8_isLetter_28 (by decide) ?_
      refine a_iret eX8_isLetter_32 rfl rfl (ret_i ?_)
      refine a_if_eq (tgt := 152) eX8_nextToken_136 (by decide) (fun h => absurd h (by decide)) (fun _ => ?_)
      refine a_aload_n eX8_nextToken_139 rfl ?_
      refine a_dup eX8_nextToken_140 rfl ?_
      refine gX8_17 eX8_nextToken_141 fl_X8_245 ?_
      refine a_iconst (v := 1) eX8_nextToken_144 (by decide) ?_
      refine a_iadd eX8_nextToken_145 ?_
      refine pX8_17 eX8_nextToken_146 fl_X8_245 ?_
      refine a_goto (tgt := 128) eX8_nextToken_149 (by decide) ?_
      exact a_weak [true, true, false] rfl rfl hv
    · replace hv := (hv.1 w5).2 w6
      refine a_if_eq (tgt := 31) eX8_isLetter_24 (by decide) (fun _ => ?_) (fun h => absurd h (by decide))
      refine a_iconst (v := 0) eX8_isLetter_31 (by decide) ?_
      refine a_iret eX8_isLetter_32 rfl rfl (ret_i ?_)
      refine a_if_eq (tgt := 152) eX8_nextToken_136 (by decide) (fun _ => ?_) (fun h => absurd h (by decide))
      refine a_aload_n eX8_nextToken_152 rfl ?_
      refine a_iload_n eX8_nextToken_153 rfl ?_
      refine a_if_eq (tgt := 161) eX8_nextToken_154 (by decide) (fun w4 => ?_) (fun w4 => ?_)
      · replace hv := hv.1 w4
        refine a_iconst (v := 1) eX8_nextToken_161 (by decide) ?_
        exact a_weak [true, false, false] rfl rfl hv
      · replace hv := hv.2 w4
        refine a_iconst (v := 4) eX8_nextToken_157 (by decide) ?_
        refine a_goto (tgt := 162) eX8_nextToken_158 (by decide) ?_
        exact a_weak [true, false, false] rfl rfl hv
    · replace hv := hv.2 w5
      refine a_if_eq (tgt := 31) eX8_isLetter_24 (by decide) (fun _ => ?_) (fun h => absurd h (by decide))
      refine a_iconst (v := 0) eX8_isLetter_31 (by decide) ?_
      refine a_iret eX8_isLetter_32 rfl rfl (ret_i ?_)
      refine a_if_eq (tgt := 152) eX8_nextToken_136 (by decide) (fun _ => ?_) (fun h => absurd h (by decide))
      refine a_aload_n eX8_nextToken_152 rfl ?_
      refine a_iload_n eX8_nextToken_153 rfl ?_
      refine a_if_eq (tgt := 161) eX8_nextToken_154 (by decide) (fun w4 => ?_) (fun w4 => ?_)
      · replace hv := hv.1 w4
        refine a_iconst (v := 1) eX8_nextToken_161 (by decide) ?_
        exact a_weak [true, false, false] rfl rfl hv
      · replace hv := hv.2 w4
        refine a_iconst (v := 4) eX8_nextToken_157 (by decide) ?_
        refine a_goto (tgt := 162) eX8_nextToken_158 (by decide) ?_
        exact a_weak [true, false, false] rfl rfl hv
theorem bX8_nextToken_162 {l : Launch} {G : GT} {d : Nat} {M : Mem} {R : Option Value → Mem → Prop} {t0 : Int32} (hv : ((((um M 100 18 t0) 100 17) - ((um M 100 18 t0) 100 16)) = 1 → vp_in ((um M 100 18 t0) 100 16) 96 ∧ At l G (d + 4) mX8_nextToken 192 [none, none, none] [.int ((um M 100 18 t0) 114 (ix ((um M 100 18 t0) 100 16))), .ref (G.1 100)] (um M 100 18 t0) R) ∧ (¬ ((((um M 100 18 t0) 100 17) - ((um M 100 18 t0) 100 16)) = 1) → At l G (d + 4) mX8_nextToken 192 [none, none, none] [.int 0, .ref (G.1 100)] (um M 100 18 t0) R)) : At l G (d + 4) mX8_nextToken 162 [some (.ref (G.1 100)), none, none] [.int t0, .ref (G.1 100)] M R := by
  refine pX8_18 eX8_nextToken_162 fl_X8_248 ?_
  refine a_aload_n eX8_nextToken_165 rfl ?_
  refine a_aload_n eX8_nextToken_166 rfl ?_
  refine gX8_17 eX8_nextToken_167 fl_X8_245 ?_
  refine a_aload_n eX8_nextToken_170 rfl ?_
  refine gX8_16 eX8_nextToken_171 fl_X8_251 ?_
  refine a_isub eX8_nextToken_174 ?_
  refine a_iconst (v := 1) eX8_nextToken_175 (by decide) ?_
  refine a_icmp_ne (tgt := 191) eX8_nextToken_176 (by decide) (fun w1 => ?_) (fun w1 => ?_)
  · replace hv := hv.2 w1
    refine a_iconst (v := 0) eX8_nextToken_191 (by decide) ?_
    exact a_weak [false, false, false] rfl rfl hv
  · replace hv := hv.1 w1
    refine a_aload_n eX8_nextToken_179 rfl ?_
    refine gX8_14 eX8_nextToken_180 fl_X8_49 ?_
    refine a_aload_n eX8_nextToken_183 rfl ?_
    refine gX8_16 eX8_nextToken_184 fl_X8_251 ?_
    obtain ⟨h2, hv⟩ := hv
    refine a_iald eX8_nextToken_187 sA114 kA114 h2 ?_
    refine a_goto (tgt := 192) eX8_nextToken_188 (by decide) ?_
    exact a_weak [false, false, false] rfl rfl hv
theorem bX8_nextToken_192 {l : Launch} {G : GT} {d : Nat} {M : Mem} {R : Option Value → Mem → Prop} {t0 : Int32} (hv : R none (um M 100 20 t0)) : At l G (d + 4) mX8_nextToken 192 [none, none, none] [.int t0, .ref (G.1 100)] M R := by
  refine pX8_20 eX8_nextToken_192 fl_X8_257 ?_
  refine a_goto (tgt := 339) eX8_nextToken_195 (by decide) ?_
  exact a_vret eX8_nextToken_339 rfl hv
theorem bX8_nextToken_214 {l : Launch} {G : GT} {d : Nat} {M : Mem} {R : Option Value → Mem → Prop} {v1 : Int32} (hv : ((M 100 15) ≤ (M 100 17) → (v1 = 0 → (((M 100 17) - (M 100 16)) ≤ 4 → At l G (d + 4) mX8_nextToken 305 [none, none, none] [.int 2, .ref (G.1 100)] M R) ∧ (¬ (((M 100 17) - (M 100 16)) ≤ 4) → At l G (d + 4) mX8_nextToken 300 [none, none, none] [.ref (G.1 100)] M R)) ∧ (¬ (v1 = 0) → At l G (d + 4) mX8_nextToken 300 [none, none, none] [.ref (G.1 100)] M R)) ∧ (¬ ((M 100 15) ≤ (M 100 17)) → vp_in (M 100 17) 96 ∧ (48 ≤ (M 114 (ix (M 100 17))) → ((M 114 (ix (M 100 17))) ≤ 57 → (4 ≤ ((M 100 17) - (M 100 16)) → At l G (d + 4) mX8_nextToken 266 [some (.ref (G.1 100)), some (.int v1), none] [.int (M 100 19), .ref (G.1 100)] M R) ∧ (¬ (4 ≤ ((M 100 17) - (M 100 16))) → vp_in (M 100 17) 96 ∧ At l G (d + 4) mX8_nextToken 266 [some (.ref (G.1 100)), some (.int v1), none] [.int (((10 * (M 100 19)) + (M 114 (ix (M 100 17)))) - 48), .ref (G.1 100)] M R)) ∧ (¬ ((M 114 (ix (M 100 17))) ≤ 57) → (v1 = 0 → (((M 100 17) - (M 100 16)) ≤ 4 → At l G (d + 4) mX8_nextToken 305 [none, none, none] [.int 2, .ref (G.1 100)] M R) ∧ (¬ (((M 100 17) - (M 100 16)) ≤ 4) → At l G (d + 4) mX8_nextToken 300 [none, none, none] [.ref (G.1 100)] M R)) ∧ (¬ (v1 = 0) → At l G (d + 4) mX8_nextToken 300 [none, none, none] [.ref (G.1 100)] M R))) ∧ (¬ (48 ≤ (M 114 (ix (M 100 17)))) → (v1 = 0 → (((M 100 17) - (M 100 16)) ≤ 4 → At l G (d + 4) mX8_nextToken 305 [none, none, none] [.int 2, .ref (G.1 100)] M R) ∧ (¬ (((M 100 17) - (M 100 16)) ≤ 4) → At l G (d + 4) mX8_nextToken 300 [none, none, none] [.ref (G.1 100)] M R)) ∧ (¬ (v1 = 0) → At l G (d + 4) mX8_nextToken 300 [none, none, none] [.ref (G.1 100)] M R)))) : At l G (d + 4) mX8_nextToken 214 [some (.ref (G.1 100)), some (.int v1), none] [] M R := by
  refine a_aload_n eX8_nextToken_214 rfl ?_
  refine a_aload_n eX8_nextToken_215 rfl ?_
  refine gX8_17 eX8_nextToken_216 fl_X8_245 ?_
  refine qX8_260 rfl eX8_nextToken_219 (Nat.le_of_ble_eq_true rfl) ?_
  refine Tr.of rfl (Nat.le_of_ble_eq_true rfl) (vs := [some (.ref (G.1 100)), some (.int (M 100 17))]) rfl ?_
  refine a_iload_n eX8_isDigit_0 rfl ?_
  refine a_aload_n eX8_isDigit_1 rfl ?_
  refine gX8_15 eX8_isDigit_2 fl_X8_233 ?_
  refine a_icmp_ge (tgt := 31) eX8_isDigit_5 (by decide) (fun w1 => ?_) (fun w1 => ?_)
  · replace hv := hv.1 w1
    refine a_iconst (v := 0) eX8_isDigit_31 (by decide) ?_
    refine a_iret eX8_isDigit_32 rfl rfl (ret_i ?_)
    refine a_if_eq (tgt := 282) eX8_nextToken_222 (by decide) (fun _ => ?_) (fun h => absurd h (by decide))
    refine a_aload_n eX8_nextToken_282 rfl ?_
    refine a_iload_n eX8_nextToken_283 rfl ?_
    refine a_if_ne (tgt := 300) eX8_nextToken_284 (by decide) (fun w2 => ?_) (fun w2 => ?_)
    · replace hv := hv.2 w2
      exact a_weak [false, false, false] rfl rfl hv
    · replace hv := hv.1 w2
      refine a_aload_n eX8_nextToken_287 rfl ?_
      refine gX8_17 eX8_nextToken_288 fl_X8_245 ?_
      refine a_aload_n eX8_nextToken_291 rfl ?_
      refine gX8_16 eX8_nextToken_292 fl_X8_251 ?_
      refine a_isub eX8_nextToken_295 ?_
      refine a_iconst (v := 4) eX8_nextToken_296 (by decide) ?_
      refine a_icmp_le (tgt := 304) eX8_nextToken_297 (by decide) (fun w3 => ?_) (fun w3 => ?_)
      · replace hv := hv.1 w3
        refine a_iconst (v := 2) eX8_nextToken_304 (by decide) ?_
        exact a_weak [false, false, false] rfl rfl hv
      · replace hv := hv.2 w3
        exact a_weak [false, false, false] rfl rfl hv
  · replace hv := hv.2 w1
    refine a_aload_n eX8_isDigit_8 rfl ?_
    refine gX8_14 eX8_isDigit_9 fl_X8_49 ?_
    refine a_iload_n eX8_isDigit_12 rfl ?_
    obtain ⟨h4, hv⟩ := hv
    refine a_iald eX8_isDigit_13 sA114 kA114 h4 ?_
    refine a_i2l eX8_isDigit_14 ?_
    refine a_ldc2i 48 eX8_isDigit_15 kl_X8_241 (by decide) ?_
    refine a_ldc2i 57 eX8_isDigit_18 kl_X8_243 (by decide) ?_
    refine qX8_68 rfl eX8_isDigit_21 (Nat.le_of_ble_eq_true rfl) ?_
    refine in_isIn (v := M 114 (ix (M 100 17))) (lo := 48) (hi := 57) ⟨fun w9 => ⟨fun w10 => ret_i ?_, fun w10 => ret_i ?_⟩, fun w9 => ret_i ?_⟩
    · replace hv := (hv.1 w9).1 w10
      refine a_if_eq (tgt := 31) eX8_isDigit_24 (by decide) (fun h => absurd h (by decide)) (fun _ => ?_)
      refine a_iconst (v := 1) eX8_isDigit_27 (by decide) ?_
      refine a_goto (tgt := 32) eX8_isDigit_28 (by decide) ?_
      refine a_iret eX8_isDigit_32 rfl rfl (ret_i ?_)
      refine a_if_eq (tgt := 282) eX8_nextToken_222 (by decide) (fun h => absurd h (by decide)) (fun _ => ?_)
      refine a_aload_n eX8_nextToken_225 rfl ?_
      refine a_aload_n eX8_nextToken_226 rfl ?_
      refine gX8_17 eX8_nextToken_227 fl_X8_245 ?_
      refine a_aload_n eX8_nextToken_230 rfl ?_
      refine gX8_16 eX8_nextToken_231 fl_X8_251 ?_
      refine a_isub eX8_nextToken_234 ?_
      refine a_iconst (v := 4) eX8_nextToken_235 (by decide) ?_
      refine a_icmp_ge (tgt := 262) eX8_nextToken_236 (by decide) (fun w5 => ?_) (fun w5 => ?_)
      · replace hv := hv.1 w5
        refine a_aload_n eX8_nextToken_262 rfl ?_
        refine gX8_19 eX8_nextToken_263 fl_X8_263 ?_
        exact a_weak [true, true, false] rfl rfl hv
      · replace hv := hv.2 w5
        refine a_bipush (v := 10) eX8_nextToken_239 (by decide) ?_
        refine a_aload_n eX8_nextToken_241 rfl ?_
        refine gX8_19 eX8_nextToken_242 fl_X8_263 ?_
        refine a_imul eX8_nextToken_245 ?_
        refine a_aload_n eX8_nextToken_246 rfl ?_
        refine gX8_14 eX8_nextToken_247 fl_X8_49 ?_
        refine a_aload_n eX8_nextToken_250 rfl ?_
        refine gX8_17 eX8_nextToken_251 fl_X8_245 ?_
        obtain ⟨h6, hv⟩ := hv
        refine a_iald eX8_nextToken_254 sA114 kA114 h6 ?_
        refine a_iadd eX8_nextToken_255 ?_
        refine a_bipush (v := 48) eX8_nextToken_256 (by decide) ?_
        refine a_isub eX8_nextToken_258 ?_
        refine a_goto (tgt := 266) eX8_nextToken_259 (by decide) ?_
        exact a_weak [true, true, false] rfl rfl hv
    · replace hv := (hv.1 w9).2 w10
      refine a_if_eq (tgt := 31) eX8_isDigit_24 (by decide) (fun _ => ?_) (fun h => absurd h (by decide))
      refine a_iconst (v := 0) eX8_isDigit_31 (by decide) ?_
      refine a_iret eX8_isDigit_32 rfl rfl (ret_i ?_)
      refine a_if_eq (tgt := 282) eX8_nextToken_222 (by decide) (fun _ => ?_) (fun h => absurd h (by decide))
      refine a_aload_n eX8_nextToken_282 rfl ?_
      refine a_iload_n eX8_nextToken_283 rfl ?_
      refine a_if_ne (tgt := 300) eX8_nextToken_284 (by decide) (fun w7 => ?_) (fun w7 => ?_)
      · replace hv := hv.2 w7
        exact a_weak [false, false, false] rfl rfl hv
      · replace hv := hv.1 w7
        refine a_aload_n eX8_nextToken_287 rfl ?_
        refine gX8_17 eX8_nextToken_288 fl_X8_245 ?_
        refine a_aload_n eX8_nextToken_291 rfl ?_
        refine gX8_16 eX8_nextToken_292 fl_X8_251 ?_
        refine a_isub eX8_nextToken_295 ?_
        refine a_iconst (v := 4) eX8_nextToken_296 (by decide) ?_
        refine a_icmp_le (tgt := 304) eX8_nextToken_297 (by decide) (fun w8 => ?_) (fun w8 => ?_)
        · replace hv := hv.1 w8
          refine a_iconst (v := 2) eX8_nextToken_304 (by decide) ?_
          exact a_weak [false, false, false] rfl rfl hv
        · replace hv := hv.2 w8
          exact a_weak [false, false, false] rfl rfl hv
    · replace hv := hv.2 w9
      refine a_if_eq (tgt := 31) eX8_isDigit_24 (by decide) (fun _ => ?_) (fun h => absurd h (by decide))
      refine a_iconst (v := 0) eX8_isDigit_31 (by decide) ?_
      refine a_iret eX8_isDigit_32 rfl rfl (ret_i ?_)
      refine a_if_eq (tgt := 282) eX8_nextToken_222 (by decide) (fun _ => ?_) (fun h => absurd h (by decide))
      refine a_aload_n eX8_nextToken_282 rfl ?_
      refine a_iload_n eX8_nextToken_283 rfl ?_
      refine a_if_ne (tgt := 300) eX8_nextToken_284 (by decide) (fun w7 => ?_) (fun w7 => ?_)
      · replace hv := hv.2 w7
        exact a_weak [false, false, false] rfl rfl hv
      · replace hv := hv.1 w7
        refine a_aload_n eX8_nextToken_287 rfl ?_
        refine gX8_17 eX8_nextToken_288 fl_X8_245 ?_
        refine a_aload_n eX8_nextToken_291 rfl ?_
        refine gX8_16 eX8_nextToken_292 fl_X8_251 ?_
        refine a_isub eX8_nextToken_295 ?_
        refine a_iconst (v := 4) eX8_nextToken_296 (by decide) ?_
        refine a_icmp_le (tgt := 304) eX8_nextToken_297 (by decide) (fun w8 => ?_) (fun w8 => ?_)
        · replace hv := hv.1 w8
          refine a_iconst (v := 2) eX8_nextToken_304 (by decide) ?_
          exact a_weak [false, false, false] rfl rfl hv
        · replace hv := hv.2 w8
          exact a_weak [false, false, false] rfl rfl hv
theorem bX8_nextToken_266 {l : Launch} {G : GT} {d : Nat} {M : Mem} {R : Option Value → Mem → Prop} {v1 : Int32} {t0 : Int32} (hv : At l G (d + 4) mX8_nextToken 214 [some (.ref (G.1 100)), some (.int v1), none] [] (um (um M 100 19 t0) 100 17 (((um M 100 19 t0) 100 17) + 1)) R) : At l G (d + 4) mX8_nextToken 266 [some (.ref (G.1 100)), some (.int v1), none] [.int t0, .ref (G.1 100)] M R := by
  refine pX8_19 eX8_nextToken_266 fl_X8_263 ?_
  refine a_aload_n eX8_nextToken_269 rfl ?_
  refine a_dup eX8_nextToken_270 rfl ?_
  refine gX8_17 eX8_nextToken_271 fl_X8_245 ?_
  refine a_iconst (v := 1) eX8_nextToken_274 (by decide) ?_
  refine a_iadd eX8_nextToken_275 ?_
  refine pX8_17 eX8_nextToken_276 fl_X8_245 ?_
  refine a_goto (tgt := 214) eX8_nextToken_279 (by decide) ?_
  exact a_weak [true, true, false] rfl rfl hv
theorem bX8_nextToken_305 {l : Launch} {G : GT} {d : Nat} {M : Mem} {R : Option Value → Mem → Prop} {t0 : Int32} (hv : R none (um M 100 18 t0)) : At l G (d + 4) mX8_nextToken 305 [none, none, none] [.int t0, .ref (G.1 100)] M R := by
  refine pX8_18 eX8_nextToken_305 fl_X8_248 ?_
  refine a_goto (tgt := 339) eX8_nextToken_308 (by decide) ?_
  exact a_vret eX8_nextToken_339 rfl hv
theorem bX8_nextToken_300 {l : Launch} {G : GT} {d : Nat} {M : Mem} {R : Option Value → Mem → Prop}  (hv : At l G (d + 4) mX8_nextToken 305 [none, none, none] [.int 4, .ref (G.1 100)] M R) : At l G (d + 4) mX8_nextToken 300 [none, none, none] [.ref (G.1 100)] M R := by
  refine a_iconst (v := 4) eX8_nextToken_300 (by decide) ?_
  refine a_goto (tgt := 305) eX8_nextToken_301 (by decide) ?_
  exact a_weak [false, false, false] rfl rfl hv
theorem bX8_nextToken_88 {l : Launch} {G : GT} {d : Nat} {M : Mem} {R : Option Value → Mem → Prop}  (hv : At l G (d + 4) mX8_nextToken 89 [some (.ref (G.1 100)), none, none] [.int 0] M R) : At l G (d + 4) mX8_nextToken 88 [some (.ref (G.1 100)), none, none] [] M R := by
  refine a_iconst (v := 0) eX8_nextToken_88 (by decide) ?_
  exact a_weak [true, false, false] rfl rfl hv
theorem bX8_nextToken_27 {l : Launch} {G : GT} {d : Nat} {M : Mem} {R : Option Value → Mem → Prop}  (hv : At l G (d + 4) mX8_nextToken 28 [some (.ref (G.1 100)), none, none] [.int 0] M R) : At l G (d + 4) mX8_nextToken 27 [some (.ref (G.1 100)), none, none] [] M R := by
  refine a_iconst (v := 0) eX8_nextToken_27 (by decide) ?_
  exact a_weak [true, false, false] rfl rfl hv
theorem tX8_isWordAt {l : Launch} {G : GT} {d : Nat} {M : Mem} {R : Option Value → Mem → Prop} {v1 : Int32} {v2 : Int32} {v3 : Int32} {v4 : Int32} (hv : (v4 = 0 → ((M 100 18) = 1 → (((M 100 17) - (M 100 16)) = 3 → vp_in (M 100 16) 96 ∧ ((M 114 (ix (M 100 16))) = v1 → vp_in ((M 100 16) + 1) 96 ∧ ((M 114 (ix ((M 100 16) + 1))) = v2 → vp_in ((M 100 16) + 2) 96 ∧ ((M 114 (ix ((M 100 16) + 2))) = v3 → (v4 = 0 → R (some (.int 1)) M) ∧ (¬ (v4 = 0) → vp_in ((M 100 16) + 3) 96 ∧ ((M 114 (ix ((M 100 16) + 3))) = v4 → R (some (.int 1)) M) ∧ (¬ ((M 114 (ix ((M 100 16) + 3))) = v4) → R (some (.int 0)) M))) ∧ (¬ ((M 114 (ix ((M 100 16) + 2))) = v3) → R (some (.int 0)) M)) ∧ (¬ ((M 114 (ix ((M 100 16) + 1))) = v2) → R (some (.int 0)) M)) ∧ (¬ ((M 114 (ix (M 100 16))) = v1) → R (some (.int 0)) M)) ∧ (¬ (((M 100 17) - (M 100 16)) = 3) → R (some (.int 0)) M)) ∧ (¬ ((M 100 18) = 1) → R (some (.int 0)) M)) ∧ (¬ (v4 = 0) → ((M 100 18) = 1 → (((M 100 17) - (M 100 16)) = 4 → vp_in (M 100 16) 96 ∧ ((M 114 (ix (M 100 16))) = v1 → vp_in ((M 100 16) + 1) 96 ∧ ((M 114 (ix ((M 100 16) + 1))) = v2 → vp_in ((M 100 16) + 2) 96 ∧ ((M 114 (ix ((M 100 16) + 2))) = v3 → (v4 = 0 → R (some (.int 1)) M) ∧ (¬ (v4 = 0) → vp_in ((M 100 16) + 3) 96 ∧ ((M 114 (ix ((M 100 16) + 3))) = v4 → R (some (.int 1)) M) ∧ (¬ ((M 114 (ix ((M 100 16) + 3))) = v4) → R (some (.int 0)) M))) ∧ (¬ ((M 114 (ix ((M 100 16) + 2))) = v3) → R (some (.int 0)) M)) ∧ (¬ ((M 114 (ix ((M 100 16) + 1))) = v2) → R (some (.int 0)) M)) ∧ (¬ ((M 114 (ix (M 100 16))) = v1) → R (some (.int 0)) M)) ∧ (¬ (((M 100 17) - (M 100 16)) = 4) → R (some (.int 0)) M)) ∧ (¬ ((M 100 18) = 1) → R (some (.int 0)) M))) : Tr l G (d + 4) mX8_isWordAt [.ref (G.1 100), .int v1, .int v2, .int v3, .int v4] M R := by
  refine Tr.of rfl (Nat.le_of_ble_eq_true rfl) (vs := [some (.ref (G.1 100)), some (.int v1), some (.int v2), some (.int v3), some (.int v4), none]) rfl ?_
  refine a_iload eX8_isWordAt_0 rfl ?_
  refine a_if_ne (tgt := 9) eX8_isWordAt_2 (by decide) (fun w1 => ?_) (fun w1 => ?_)
  · replace hv := hv.2 w1
    refine a_iconst (v := 4) eX8_isWordAt_9 (by decide) ?_
    refine a_istore (vs' := [some (.ref (G.1 100)), some (.int v1), some (.int v2), some (.int v3), some (.int v4), some (.int 4)]) eX8_isWordAt_10 rfl (Nat.le_of_ble_eq_true rfl) rfl ?_
    refine a_aload_n eX8_isWordAt_12 rfl ?_
    refine gX8_18 eX8_isWordAt_13 fl_X8_248 ?_
    refine a_iconst (v := 1) eX8_isWordAt_16 (by decide) ?_
    refine a_icmp_ne (tgt := 102) eX8_isWordAt_17 (by decide) (fun w2 => ?_) (fun w2 => ?_)
    · replace hv := hv.2 w2
      refine a_iconst (v := 0) eX8_isWordAt_102 (by decide) ?_
      exact a_iret eX8_isWordAt_103 rfl rfl hv
    · replace hv := hv.1 w2
      refine a_aload_n eX8_isWordAt_20 rfl ?_
      refine gX8_17 eX8_isWordAt_21 fl_X8_245 ?_
      refine a_aload_n eX8_isWordAt_24 rfl ?_
      refine gX8_16 eX8_isWordAt_25 fl_X8_251 ?_
      refine a_isub eX8_isWordAt_28 ?_
      refine a_iload eX8_isWordAt_29 rfl ?_
      refine a_icmp_ne (tgt := 102) eX8_isWordAt_31 (by decide) (fun w3 => ?_) (fun w3 => ?_)
      · replace hv := hv.2 w3
        refine a_iconst (v := 0) eX8_isWordAt_102 (by decide) ?_
        exact a_iret eX8_isWordAt_103 rfl rfl hv
      · replace hv := hv.1 w3
        refine a_aload_n eX8_isWordAt_34 rfl ?_
        refine gX8_14 eX8_isWordAt_35 fl_X8_49 ?_
        refine a_aload_n eX8_isWordAt_38 rfl ?_
        refine gX8_16 eX8_isWordAt_39 fl_X8_251 ?_
        obtain ⟨h4, hv⟩ := hv
        refine a_iald eX8_isWordAt_42 sA114 kA114 h4 ?_
        refine a_iload_n eX8_isWordAt_43 rfl ?_
        refine a_icmp_ne (tgt := 102) eX8_isWordAt_44 (by decide) (fun w5 => ?_) (fun w5 => ?_)
        · replace hv := hv.2 w5
          refine a_iconst (v := 0) eX8_isWordAt_102 (by decide) ?_
          exact a_iret eX8_isWordAt_103 rfl rfl hv
        · replace hv := hv.1 w5
          refine a_aload_n eX8_isWordAt_47 rfl ?_
          refine gX8_14 eX8_isWordAt_48 fl_X8_49 ?_
          refine a_aload_n eX8_isWordAt_51 rfl ?_
          refine gX8_16 eX8_isWordAt_52 fl_X8_251 ?_
          refine a_iconst (v := 1) eX8_isWordAt_55 (by decide) ?_
          refine a_iadd eX8_isWordAt_56 ?_
          obtain ⟨h6, hv⟩ := hv
          refine a_iald eX8_isWordAt_57 sA114 kA114 h6 ?_
          refine a_iload_n eX8_isWordAt_58 rfl ?_
          refine a_icmp_ne (tgt := 102) eX8_isWordAt_59 (by decide) (fun w7 => ?_) (fun w7 => ?_)
          · replace hv := hv.2 w7
            refine a_iconst (v := 0) eX8_isWordAt_102 (by decide) ?_
            exact a_iret eX8_isWordAt_103 rfl rfl hv
          · replace hv := hv.1 w7
            refine a_aload_n eX8_isWordAt_62 rfl ?_
            refine gX8_14 eX8_isWordAt_63 fl_X8_49 ?_
            refine a_aload_n eX8_isWordAt_66 rfl ?_
            refine gX8_16 eX8_isWordAt_67 fl_X8_251 ?_
            refine a_iconst (v := 2) eX8_isWordAt_70 (by decide) ?_
            refine a_iadd eX8_isWordAt_71 ?_
            obtain ⟨h8, hv⟩ := hv
            refine a_iald eX8_isWordAt_72 sA114 kA114 h8 ?_
            refine a_iload_n eX8_isWordAt_73 rfl ?_
            refine a_icmp_ne (tgt := 102) eX8_isWordAt_74 (by decide) (fun w9 => ?_) (fun w9 => ?_)
            · replace hv := hv.2 w9
              refine a_iconst (v := 0) eX8_isWordAt_102 (by decide) ?_
              exact a_iret eX8_isWordAt_103 rfl rfl hv
            · replace hv := hv.1 w9
              refine a_iload eX8_isWordAt_77 rfl ?_
              refine a_if_eq (tgt := 98) eX8_isWordAt_79 (by decide) (fun w10 => ?_) (fun w10 => ?_)
              · replace hv := hv.1 w10
                refine a_iconst (v := 1) eX8_isWordAt_98 (by decide) ?_
                refine a_goto (tgt := 103) eX8_isWordAt_99 (by decide) ?_
                exact a_iret eX8_isWordAt_103 rfl rfl hv
              · replace hv := hv.2 w10
                refine a_aload_n eX8_isWordAt_82 rfl ?_
                refine gX8_14 eX8_isWordAt_83 fl_X8_49 ?_
                refine a_aload_n eX8_isWordAt_86 rfl ?_
                refine gX8_16 eX8_isWordAt_87 fl_X8_251 ?_
                refine a_iconst (v := 3) eX8_isWordAt_90 (by decide) ?_
                refine a_iadd eX8_isWordAt_91 ?_
                obtain ⟨h11, hv⟩ := hv
                refine a_iald eX8_isWordAt_92 sA114 kA114 h11 ?_
                refine a_iload eX8_isWordAt_93 rfl ?_
                refine a_icmp_ne (tgt := 102) eX8_isWordAt_95 (by decide) (fun w12 => ?_) (fun w12 => ?_)
                · replace hv := hv.2 w12
                  refine a_iconst (v := 0) eX8_isWordAt_102 (by decide) ?_
                  exact a_iret eX8_isWordAt_103 rfl rfl hv
                · replace hv := hv.1 w12
                  refine a_iconst (v := 1) eX8_isWordAt_98 (by decide) ?_
                  refine a_goto (tgt := 103) eX8_isWordAt_99 (by decide) ?_
                  exact a_iret eX8_isWordAt_103 rfl rfl hv
  · replace hv := hv.1 w1
    refine a_iconst (v := 3) eX8_isWordAt_5 (by decide) ?_
    refine a_goto (tgt := 10) eX8_isWordAt_6 (by decide) ?_
    refine a_istore (vs' := [some (.ref (G.1 100)), some (.int v1), some (.int v2), some (.int v3), some (.int v4), some (.int 3)]) eX8_isWordAt_10 rfl (Nat.le_of_ble_eq_true rfl) rfl ?_
    refine a_aload_n eX8_isWordAt_12 rfl ?_
    refine gX8_18 eX8_isWordAt_13 fl_X8_248 ?_
    refine a_iconst (v := 1) eX8_isWordAt_16 (by decide) ?_
    refine a_icmp_ne (tgt := 102) eX8_isWordAt_17 (by decide) (fun w13 => ?_) (fun w13 => ?_)
    · replace hv := hv.2 w13
      refine a_iconst (v := 0) eX8_isWordAt_102 (by decide) ?_
      exact a_iret eX8_isWordAt_103 rfl rfl hv
    · replace hv := hv.1 w13
      refine a_aload_n eX8_isWordAt_20 rfl ?_
      refine gX8_17 eX8_isWordAt_21 fl_X8_245 ?_
      refine a_aload_n eX8_isWordAt_24 rfl ?_
      refine gX8_16 eX8_isWordAt_25 fl_X8_251 ?_
      refine a_isub eX8_isWordAt_28 ?_
      refine a_iload eX8_isWordAt_29 rfl ?_
      refine a_icmp_ne (tgt := 102) eX8_isWordAt_31 (by decide) (fun w14 => ?_) (fun w14 => ?_)
      · replace hv := hv.2 w14
        refine a_iconst (v := 0) eX8_isWordAt_102 (by decide) ?_
        exact a_iret eX8_isWordAt_103 rfl rfl hv
      · replace hv := hv.1 w14
        refine a_aload_n eX8_isWordAt_34 rfl ?_
        refine gX8_14 eX8_isWordAt_35 fl_X8_49 ?_
        refine a_aload_n eX8_isWordAt_38 rfl ?_
        refine gX8_16 eX8_isWordAt_39 fl_X8_251 ?_
        obtain ⟨h15, hv⟩ := hv
        refine a_iald eX8_isWordAt_42 sA114 kA114 h15 ?_
        refine a_iload_n eX8_isWordAt_43 rfl ?_
        refine a_icmp_ne (tgt := 102) eX8_isWordAt_44 (by decide) (fun w16 => ?_) (fun w16 => ?_)
        · replace hv := hv.2 w16
          refine a_iconst (v := 0) eX8_isWordAt_102 (by decide) ?_
          exact a_iret eX8_isWordAt_103 rfl rfl hv
        · replace hv := hv.1 w16
          refine a_aload_n eX8_isWordAt_47 rfl ?_
          refine gX8_14 eX8_isWordAt_48 fl_X8_49 ?_
          refine a_aload_n eX8_isWordAt_51 rfl ?_
          refine gX8_16 eX8_isWordAt_52 fl_X8_251 ?_
          refine a_iconst (v := 1) eX8_isWordAt_55 (by decide) ?_
          refine a_iadd eX8_isWordAt_56 ?_
          obtain ⟨h17, hv⟩ := hv
          refine a_iald eX8_isWordAt_57 sA114 kA114 h17 ?_
          refine a_iload_n eX8_isWordAt_58 rfl ?_
          refine a_icmp_ne (tgt := 102) eX8_isWordAt_59 (by decide) (fun w18 => ?_) (fun w18 => ?_)
          · replace hv := hv.2 w18
            refine a_iconst (v := 0) eX8_isWordAt_102 (by decide) ?_
            exact a_iret eX8_isWordAt_103 rfl rfl hv
          · replace hv := hv.1 w18
            refine a_aload_n eX8_isWordAt_62 rfl ?_
            refine gX8_14 eX8_isWordAt_63 fl_X8_49 ?_
            refine a_aload_n eX8_isWordAt_66 rfl ?_
            refine gX8_16 eX8_isWordAt_67 fl_X8_251 ?_
            refine a_iconst (v := 2) eX8_isWordAt_70 (by decide) ?_
            refine a_iadd eX8_isWordAt_71 ?_
            obtain ⟨h19, hv⟩ := hv
            refine a_iald eX8_isWordAt_72 sA114 kA114 h19 ?_
            refine a_iload_n eX8_isWordAt_73 rfl ?_
            refine a_icmp_ne (tgt := 102) eX8_isWordAt_74 (by decide) (fun w20 => ?_) (fun w20 => ?_)
            · replace hv := hv.2 w20
              refine a_iconst (v := 0) eX8_isWordAt_102 (by decide) ?_
              exact a_iret eX8_isWordAt_103 rfl rfl hv
            · replace hv := hv.1 w20
              refine a_iload eX8_isWordAt_77 rfl ?_
              refine a_if_eq (tgt := 98) eX8_isWordAt_79 (by decide) (fun w21 => ?_) (fun w21 => ?_)
              · replace hv := hv.1 w21
                refine a_iconst (v := 1) eX8_isWordAt_98 (by decide) ?_
                refine a_goto (tgt := 103) eX8_isWordAt_99 (by decide) ?_
                exact a_iret eX8_isWordAt_103 rfl rfl hv
              · replace hv := hv.2 w21
                refine a_aload_n eX8_isWordAt_82 rfl ?_
                refine gX8_14 eX8_isWordAt_83 fl_X8_49 ?_
                refine a_aload_n eX8_isWordAt_86 rfl ?_
                refine gX8_16 eX8_isWordAt_87 fl_X8_251 ?_
                refine a_iconst (v := 3) eX8_isWordAt_90 (by decide) ?_
                refine a_iadd eX8_isWordAt_91 ?_
                obtain ⟨h22, hv⟩ := hv
                refine a_iald eX8_isWordAt_92 sA114 kA114 h22 ?_
                refine a_iload eX8_isWordAt_93 rfl ?_
                refine a_icmp_ne (tgt := 102) eX8_isWordAt_95 (by decide) (fun w23 => ?_) (fun w23 => ?_)
                · replace hv := hv.2 w23
                  refine a_iconst (v := 0) eX8_isWordAt_102 (by decide) ?_
                  exact a_iret eX8_isWordAt_103 rfl rfl hv
                · replace hv := hv.1 w23
                  refine a_iconst (v := 1) eX8_isWordAt_98 (by decide) ?_
                  refine a_goto (tgt := 103) eX8_isWordAt_99 (by decide) ?_
                  exact a_iret eX8_isWordAt_103 rfl rfl hv
theorem tX8_key {l : Launch} {G : GT} {d : Nat} {M : Mem} {R : Option Value → Mem → Prop}  (hv : Tr l G (d + 3) mX8_isWordAt [.ref (G.1 100), .int 117, .int 114, .int 103, .int 101] M (kI fun q M' => At l G (d + 4) mX8_key 12 [some (.ref (G.1 100))] [.int q] M' R)) : Tr l G (d + 4) mX8_key [.ref (G.1 100)] M R := by
  refine Tr.of rfl (Nat.le_of_ble_eq_true rfl) (vs := [some (.ref (G.1 100))]) rfl ?_
  refine a_aload_n eX8_key_0 rfl ?_
  refine a_bipush (v := 117) eX8_key_1 (by decide) ?_
  refine a_bipush (v := 114) eX8_key_3 (by decide) ?_
  refine a_bipush (v := 103) eX8_key_5 (by decide) ?_
  refine a_bipush (v := 101) eX8_key_7 (by decide) ?_
  exact qX8_266 rfl eX8_key_9 (Nat.le_of_ble_eq_true rfl) (tr_I [true] rfl rfl hv)
theorem bX8_key_12 {l : Launch} {G : GT} {d : Nat} {M : Mem} {R : Option Value → Mem → Prop} {r : Int32} (hv : (r = 0 → Tr l G (d + 3) mX8_isWordAt [.ref (G.1 100), .int 102, .int 101, .int 101, .int 0] M (kI fun q M' => At l G (d + 4) mX8_key 28 [some (.ref (G.1 100))] [.int q] M' R)) ∧ (¬ (r = 0) → R (some (.int 0)) M)) : At l G (d + 4) mX8_key 12 [some (.ref (G.1 100))] [.int r] M R := by
  refine a_if_eq (tgt := 17) eX8_key_12 (by decide) (fun w1 => ?_) (fun w1 => ?_)
  · replace hv := hv.1 w1
    refine a_aload_n eX8_key_17 rfl ?_
    refine a_bipush (v := 102) eX8_key_18 (by decide) ?_
    refine a_bipush (v := 101) eX8_key_20 (by decide) ?_
    refine a_bipush (v := 101) eX8_key_22 (by decide) ?_
    refine a_iconst (v := 0) eX8_key_24 (by decide) ?_
    exact qX8_266 rfl eX8_key_25 (Nat.le_of_ble_eq_true rfl) (tr_I [true] rfl rfl hv)
  · replace hv := hv.2 w1
    refine a_iconst (v := 0) eX8_key_15 (by decide) ?_
    exact a_iret eX8_key_16 rfl rfl hv
theorem bX8_key_28 {l : Launch} {G : GT} {d : Nat} {M : Mem} {R : Option Value → Mem → Prop} {r : Int32} (hv : (r = 0 → Tr l G (d + 3) mX8_isWordAt [.ref (G.1 100), .int 102, .int 105, .int 110, .int 101] M (kI fun q M' => At l G (d + 4) mX8_key 45 [none] [.int q] M' R)) ∧ (¬ (r = 0) → R (some (.int 1)) M)) : At l G (d + 4) mX8_key 28 [some (.ref (G.1 100))] [.int r] M R := by
  refine a_if_eq (tgt := 33) eX8_key_28 (by decide) (fun w1 => ?_) (fun w1 => ?_)
  · replace hv := hv.1 w1
    refine a_aload_n eX8_key_33 rfl ?_
    refine a_bipush (v := 102) eX8_key_34 (by decide) ?_
    refine a_bipush (v := 105) eX8_key_36 (by decide) ?_
    refine a_bipush (v := 110) eX8_key_38 (by decide) ?_
    refine a_bipush (v := 101) eX8_key_40 (by decide) ?_
    exact qX8_266 rfl eX8_key_42 (Nat.le_of_ble_eq_true rfl) (tr_I [false] rfl rfl hv)
  · replace hv := hv.2 w1
    refine a_iconst (v := 1) eX8_key_31 (by decide) ?_
    exact a_iret eX8_key_32 rfl rfl hv
theorem bX8_key_45 {l : Launch} {G : GT} {d : Nat} {M : Mem} {R : Option Value → Mem → Prop} {r : Int32} (hv : (r = 0 → R (some (.int (-1))) M) ∧ (¬ (r = 0) → R (some (.int 2)) M)) : At l G (d + 4) mX8_key 45 [none] [.int r] M R := by
  refine a_if_eq (tgt := 52) eX8_key_45 (by decide) (fun w1 => ?_) (fun w1 => ?_)
  · replace hv := hv.1 w1
    refine a_iconst (v := (-1)) eX8_key_52 (by decide) ?_
    exact a_iret eX8_key_53 rfl rfl hv
  · replace hv := hv.2 w1
    refine a_iconst (v := 2) eX8_key_48 (by decide) ?_
    refine a_goto (tgt := 53) eX8_key_49 (by decide) ?_
    exact a_iret eX8_key_53 rfl rfl hv
theorem tX8_isName {l : Launch} {G : GT} {d : Nat} {M : Mem} {R : Option Value → Mem → Prop} {v0 : Int32} {v1 : Int32} (hv : (v0 = 0 → (v1 = 119 → R (some (.int 1)) M) ∧ (¬ (v1 = 119) → (v1 = 97 → R (some (.int 1)) M) ∧ (¬ (v1 = 97) → (v1 = 111 → R (some (.int 1)) M) ∧ (¬ (v1 = 111) → R (some (.int 0)) M)))) ∧ (v0 = 1 → (v1 = 107 → R (some (.int 1)) M) ∧ (¬ (v1 = 107) → (v1 = 105 → R (some (.int 1)) M) ∧ (¬ (v1 = 105) → R (some (.int 0)) M))) ∧ (¬ v0 = 0 → ¬ v0 = 1 → (v1 = 115 → R (some (.int 1)) M) ∧ (¬ (v1 = 115) → (v1 = 112 → R (some (.int 1)) M) ∧ (¬ (v1 = 112) → R (some (.int 0)) M)))) : Tr l G (d + 4) mX8_isName [.int v0, .int v1] M R := by
  refine Tr.of rfl (Nat.le_of_ble_eq_true rfl) (vs := [some (.int v0), some (.int v1)]) rfl ?_
  refine a_iload_n eX8_isName_0 rfl ?_
  by_cases w4 : v0 = 0
  · refine a_lsw (off := 27) (tgt := 28) eX8_isName_1 (by decide) (by rw [w4]; try rfl) (by decide) ?_
    replace hv := hv.1 w4
    refine a_iload_n eX8_isName_28 rfl ?_
    refine a_bipush (v := 119) eX8_isName_29 (by decide) ?_
    refine a_icmp_eq (tgt := 46) eX8_isName_31 (by decide) (fun w1 => ?_) (fun w1 => ?_)
    · replace hv := hv.1 w1
      refine a_iconst (v := 1) eX8_isName_46 (by decide) ?_
      refine a_goto (tgt := 51) eX8_isName_47 (by decide) ?_
      exact a_iret eX8_isName_51 rfl rfl hv
    · replace hv := hv.2 w1
      refine a_iload_n eX8_isName_34 rfl ?_
      refine a_bipush (v := 97) eX8_isName_35 (by decide) ?_
      refine a_icmp_eq (tgt := 46) eX8_isName_37 (by decide) (fun w2 => ?_) (fun w2 => ?_)
      · replace hv := hv.1 w2
        refine a_iconst (v := 1) eX8_isName_46 (by decide) ?_
        refine a_goto (tgt := 51) eX8_isName_47 (by decide) ?_
        exact a_iret eX8_isName_51 rfl rfl hv
      · replace hv := hv.2 w2
        refine a_iload_n eX8_isName_40 rfl ?_
        refine a_bipush (v := 111) eX8_isName_41 (by decide) ?_
        refine a_icmp_ne (tgt := 50) eX8_isName_43 (by decide) (fun w3 => ?_) (fun w3 => ?_)
        · replace hv := hv.2 w3
          refine a_iconst (v := 0) eX8_isName_50 (by decide) ?_
          exact a_iret eX8_isName_51 rfl rfl hv
        · replace hv := hv.1 w3
          refine a_iconst (v := 1) eX8_isName_46 (by decide) ?_
          refine a_goto (tgt := 51) eX8_isName_47 (by decide) ?_
          exact a_iret eX8_isName_51 rfl rfl hv
  by_cases w7 : v0 = 1
  · refine a_lsw (off := 51) (tgt := 52) eX8_isName_1 (by decide) (by rw [w7]; try rfl) (by decide) ?_
    replace hv := hv.2.1 w7
    refine a_iload_n eX8_isName_52 rfl ?_
    refine a_bipush (v := 107) eX8_isName_53 (by decide) ?_
    refine a_icmp_eq (tgt := 64) eX8_isName_55 (by decide) (fun w5 => ?_) (fun w5 => ?_)
    · replace hv := hv.1 w5
      refine a_iconst (v := 1) eX8_isName_64 (by decide) ?_
      refine a_goto (tgt := 69) eX8_isName_65 (by decide) ?_
      exact a_iret eX8_isName_69 rfl rfl hv
    · replace hv := hv.2 w5
      refine a_iload_n eX8_isName_58 rfl ?_
      refine a_bipush (v := 105) eX8_isName_59 (by decide) ?_
      refine a_icmp_ne (tgt := 68) eX8_isName_61 (by decide) (fun w6 => ?_) (fun w6 => ?_)
      · replace hv := hv.2 w6
        refine a_iconst (v := 0) eX8_isName_68 (by decide) ?_
        exact a_iret eX8_isName_69 rfl rfl hv
      · replace hv := hv.1 w6
        refine a_iconst (v := 1) eX8_isName_64 (by decide) ?_
        refine a_goto (tgt := 69) eX8_isName_65 (by decide) ?_
        exact a_iret eX8_isName_69 rfl rfl hv
  refine a_lsw (off := 69) (tgt := 70) eX8_isName_1 (by decide) (by rw [lv_osw w4 (by decide)]; rw [lv_osw w7 (by decide)]; try rfl) (by decide) ?_
  replace hv := hv.2.2 w4 w7
  refine a_iload_n eX8_isName_70 rfl ?_
  refine a_bipush (v := 115) eX8_isName_71 (by decide) ?_
  refine a_icmp_eq (tgt := 82) eX8_isName_73 (by decide) (fun w8 => ?_) (fun w8 => ?_)
  · replace hv := hv.1 w8
    refine a_iconst (v := 1) eX8_isName_82 (by decide) ?_
    refine a_goto (tgt := 87) eX8_isName_83 (by decide) ?_
    exact a_iret eX8_isName_87 rfl rfl hv
  · replace hv := hv.2 w8
    refine a_iload_n eX8_isName_76 rfl ?_
    refine a_bipush (v := 112) eX8_isName_77 (by decide) ?_
    refine a_icmp_ne (tgt := 86) eX8_isName_79 (by decide) (fun w9 => ?_) (fun w9 => ?_)
    · replace hv := hv.2 w9
      refine a_iconst (v := 0) eX8_isName_86 (by decide) ?_
      exact a_iret eX8_isName_87 rfl rfl hv
    · replace hv := hv.1 w9
      refine a_iconst (v := 1) eX8_isName_82 (by decide) ?_
      refine a_goto (tgt := 87) eX8_isName_83 (by decide) ?_
      exact a_iret eX8_isName_87 rfl rfl hv
theorem tX8_either {l : Launch} {G : GT} {d : Nat} {M : Mem} {R : Option Value → Mem → Prop} {v1 : Int32} (hv : Tr l G (d + 3) mX8_both [.ref (G.1 100), .int v1] M (kI fun q M' => At l G (d + 4) mX8_either 5 [some (.ref (G.1 100)), some (.int v1)] [.int q] M' R)) : Tr l G (d + 4) mX8_either [.ref (G.1 100), .int v1] M R := by
  refine Tr.of rfl (Nat.le_of_ble_eq_true rfl) (vs := [some (.ref (G.1 100)), some (.int v1)]) rfl ?_
  refine a_aload_n eX8_either_0 rfl ?_
  refine a_iload_n eX8_either_1 rfl ?_
  exact qX8_276 rfl eX8_either_2 (Nat.le_of_ble_eq_true rfl) (tr_I [true, true] rfl rfl hv)
theorem bX8_either_5 {l : Launch} {G : GT} {d : Nat} {M : Mem} {R : Option Value → Mem → Prop} {v1 : Int32} {r : Int32} (hv : (r = 0 → R (some (.int 0)) M) ∧ (¬ (r = 0) → At l G (d + 4) mX8_either 10 [some (.ref (G.1 100)), some (.int v1)] [] M R)) : At l G (d + 4) mX8_either 5 [some (.ref (G.1 100)), some (.int v1)] [.int r] M R := by
  refine a_if_ne (tgt := 10) eX8_either_5 (by decide) (fun w1 => ?_) (fun w1 => ?_)
  · replace hv := hv.2 w1
    exact a_weak [true, true] rfl rfl hv
  · replace hv := hv.1 w1
    refine a_iconst (v := 0) eX8_either_8 (by decide) ?_
    exact a_iret eX8_either_9 rfl rfl hv
theorem bX8_either_10 {l : Launch} {G : GT} {d : Nat} {M : Mem} {R : Option Value → Mem → Prop} {v1 : Int32} (hv : ((M 100 18) = 3 → ((M 100 20) = 124 → Tr l G (d + 3) mX8_nextToken [.ref (G.1 100)] M (kV fun M' => At l G (d + 4) mX8_either 23 [some (.ref (G.1 100)), some (.int v1)] [] M' R)) ∧ (¬ ((M 100 20) = 124) → R (some (.int 1)) M)) ∧ (¬ ((M 100 18) = 3) → R (some (.int 1)) M)) : At l G (d + 4) mX8_either 10 [some (.ref (G.1 100)), some (.int v1)] [] M R := by
  refine a_aload_n eX8_either_10 rfl ?_
  refine a_bipush (v := 124) eX8_either_11 (by decide) ?_
  refine qX8_279 rfl eX8_either_13 (Nat.le_of_ble_eq_true rfl) ?_
  refine Tr.of rfl (Nat.le_of_ble_eq_true rfl) (vs := [some (.ref (G.1 100)), some (.int 124)]) rfl ?_
  refine a_aload_n eX8_isSign_0 rfl ?_
  refine gX8_18 eX8_isSign_1 fl_X8_248 ?_
  refine a_iconst (v := 3) eX8_isSign_4 (by decide) ?_
  refine a_icmp_ne (tgt := 20) eX8_isSign_5 (by decide) (fun w1 => ?_) (fun w1 => ?_)
  · replace hv := hv.2 w1
    refine a_iconst (v := 0) eX8_isSign_20 (by decide) ?_
    refine a_iret eX8_isSign_21 rfl rfl (ret_i ?_)
    refine a_if_eq (tgt := 43) eX8_either_16 (by decide) (fun _ => ?_) (fun h => absurd h (by decide))
    refine a_iconst (v := 1) eX8_either_43 (by decide) ?_
    exact a_iret eX8_either_44 rfl rfl hv
  · replace hv := hv.1 w1
    refine a_aload_n eX8_isSign_8 rfl ?_
    refine gX8_20 eX8_isSign_9 fl_X8_257 ?_
    refine a_iload_n eX8_isSign_12 rfl ?_
    refine a_icmp_ne (tgt := 20) eX8_isSign_13 (by decide) (fun w2 => ?_) (fun w2 => ?_)
    · replace hv := hv.2 w2
      refine a_iconst (v := 0) eX8_isSign_20 (by decide) ?_
      refine a_iret eX8_isSign_21 rfl rfl (ret_i ?_)
      refine a_if_eq (tgt := 43) eX8_either_16 (by decide) (fun _ => ?_) (fun h => absurd h (by decide))
      refine a_iconst (v := 1) eX8_either_43 (by decide) ?_
      exact a_iret eX8_either_44 rfl rfl hv
    · replace hv := hv.1 w2
      refine a_iconst (v := 1) eX8_isSign_16 (by decide) ?_
      refine a_goto (tgt := 21) eX8_isSign_17 (by decide) ?_
      refine a_iret eX8_isSign_21 rfl rfl (ret_i ?_)
      refine a_if_eq (tgt := 43) eX8_either_16 (by decide) (fun h => absurd h (by decide)) (fun _ => ?_)
      refine a_aload_n eX8_either_19 rfl ?_
      exact qX8_282 rfl eX8_either_20 (Nat.le_of_ble_eq_true rfl) (tr_V [true, true] rfl rfl hv)
theorem bX8_either_23 {l : Launch} {G : GT} {d : Nat} {M : Mem} {R : Option Value → Mem → Prop} {v1 : Int32} (hv : Tr l G (d + 3) mX8_both [.ref (G.1 100), .int v1] M (kI fun q M' => At l G (d + 4) mX8_either 28 [some (.ref (G.1 100)), some (.int v1)] [.int q] M' R)) : At l G (d + 4) mX8_either 23 [some (.ref (G.1 100)), some (.int v1)] [] M R := by
  refine a_aload_n eX8_either_23 rfl ?_
  refine a_iload_n eX8_either_24 rfl ?_
  exact qX8_276 rfl eX8_either_25 (Nat.le_of_ble_eq_true rfl) (tr_I [true, true] rfl rfl hv)
theorem bX8_either_28 {l : Launch} {G : GT} {d : Nat} {M : Mem} {R : Option Value → Mem → Prop} {v1 : Int32} {r : Int32} (hv : (r = 0 → R (some (.int 0)) M) ∧ (¬ (r = 0) → vp_in ((M 100 24) + (2 * (M 100 23))) 3084 ∧ vp_in ((((um M 101 (ix ((M 100 24) + (2 * (M 100 23)))) 2) 100 24) + (2 * ((um M 101 (ix ((M 100 24) + (2 * (M 100 23)))) 2) 100 23))) + 1) 3084 ∧ ∀ M4 : Mem, M4 = um (um M 101 (ix ((M 100 24) + (2 * (M 100 23)))) 2) 101 (ix ((((um M 101 (ix ((M 100 24) + (2 * (M 100 23)))) 2) 100 24) + (2 * ((um M 101 (ix ((M 100 24) + (2 * (M 100 23)))) 2) 100 23))) + 1)) 124 → At l G (d + 4) mX8_either 10 [some (.ref (G.1 100)), some (.int v1)] [] (um M4 100 23 ((M4 100 23) + 1)) R)) : At l G (d + 4) mX8_either 28 [some (.ref (G.1 100)), some (.int v1)] [.int r] M R := by
  refine a_if_ne (tgt := 33) eX8_either_28 (by decide) (fun w1 => ?_) (fun w1 => ?_)
  · replace hv := hv.2 w1
    refine a_aload_n eX8_either_33 rfl ?_
    refine a_iconst (v := 2) eX8_either_34 (by decide) ?_
    refine a_bipush (v := 124) eX8_either_35 (by decide) ?_
    refine qX8_285 rfl eX8_either_37 (Nat.le_of_ble_eq_true rfl) ?_
    refine Tr.of rfl (Nat.le_of_ble_eq_true rfl) (vs := [some (.ref (G.1 100)), some (.int 2), some (.int 124)]) rfl ?_
    refine a_aload_n eX8_step_0 rfl ?_
    refine gX8_0 eX8_step_1 fl_X8_7 ?_
    refine a_aload_n eX8_step_4 rfl ?_
    refine gX8_24 eX8_step_5 fl_X8_270 ?_
    refine a_iconst (v := 2) eX8_step_8 (by decide) ?_
    refine a_aload_n eX8_step_9 rfl ?_
    refine gX8_23 eX8_step_10 fl_X8_273 ?_
    refine a_imul eX8_step_13 ?_
    refine a_iadd eX8_step_14 ?_
    refine a_iload_n eX8_step_15 rfl ?_
    obtain ⟨h2, hv⟩ := hv
    refine a_iast eX8_step_16 sA101 kA101 h2 ?_
    refine a_aload_n eX8_step_17 rfl ?_
    refine gX8_0 eX8_step_18 fl_X8_7 ?_
    refine a_aload_n eX8_step_21 rfl ?_
    refine gX8_24 eX8_step_22 fl_X8_270 ?_
    refine a_iconst (v := 2) eX8_step_25 (by decide) ?_
    refine a_aload_n eX8_step_26 rfl ?_
    refine gX8_23 eX8_step_27 fl_X8_273 ?_
    refine a_imul eX8_step_30 ?_
    refine a_iadd eX8_step_31 ?_
    refine a_iconst (v := 1) eX8_step_32 (by decide) ?_
    refine a_iadd eX8_step_33 ?_
    refine a_iload_n eX8_step_34 rfl ?_
    obtain ⟨h3, hv⟩ := hv
    refine a_iast eX8_step_35 sA101 kA101 h3 ?_
    refine a_nm (fun M4 eM4 => ?_)
    replace hv := hv M4 eM4
    refine a_aload_n eX8_step_36 rfl ?_
    refine a_dup eX8_step_37 rfl ?_
    refine gX8_23 eX8_step_38 fl_X8_273 ?_
    refine a_iconst (v := 1) eX8_step_41 (by decide) ?_
    refine a_iadd eX8_step_42 ?_
    refine pX8_23 eX8_step_43 fl_X8_273 ?_
    refine a_vret eX8_step_46 rfl (ret_v ?_)
    refine a_goto (tgt := 10) eX8_either_40 (by decide) ?_
    exact a_weak [true, true] rfl rfl hv
  · replace hv := hv.1 w1
    refine a_iconst (v := 0) eX8_either_31 (by decide) ?_
    exact a_iret eX8_either_32 rfl rfl hv
theorem tX8_both {l : Launch} {G : GT} {d : Nat} {M : Mem} {R : Option Value → Mem → Prop} {v1 : Int32} (hv : Tr l G (d + 3) mX8_test [.ref (G.1 100), .int v1] M (kI fun q M' => At l G (d + 4) mX8_both 5 [some (.ref (G.1 100)), some (.int v1)] [.int q] M' R)) : Tr l G (d + 4) mX8_both [.ref (G.1 100), .int v1] M R := by
  refine Tr.of rfl (Nat.le_of_ble_eq_true rfl) (vs := [some (.ref (G.1 100)), some (.int v1)]) rfl ?_
  refine a_aload_n eX8_both_0 rfl ?_
  refine a_iload_n eX8_both_1 rfl ?_
  exact qX8_288 rfl eX8_both_2 (Nat.le_of_ble_eq_true rfl) (tr_I [true, true] rfl rfl hv)
theorem bX8_both_5 {l : Launch} {G : GT} {d : Nat} {M : Mem} {R : Option Value → Mem → Prop} {v1 : Int32} {r : Int32} (hv : (r = 0 → R (some (.int 0)) M) ∧ (¬ (r = 0) → At l G (d + 4) mX8_both 10 [some (.ref (G.1 100)), some (.int v1)] [] M R)) : At l G (d + 4) mX8_both 5 [some (.ref (G.1 100)), some (.int v1)] [.int r] M R := by
  refine a_if_ne (tgt := 10) eX8_both_5 (by decide) (fun w1 => ?_) (fun w1 => ?_)
  · replace hv := hv.2 w1
    exact a_weak [true, true] rfl rfl hv
  · replace hv := hv.1 w1
    refine a_iconst (v := 0) eX8_both_8 (by decide) ?_
    exact a_iret eX8_both_9 rfl rfl hv
theorem bX8_both_10 {l : Launch} {G : GT} {d : Nat} {M : Mem} {R : Option Value → Mem → Prop} {v1 : Int32} (hv : ((M 100 18) = 3 → ((M 100 20) = 38 → Tr l G (d + 3) mX8_nextToken [.ref (G.1 100)] M (kV fun M' => At l G (d + 4) mX8_both 23 [some (.ref (G.1 100)), some (.int v1)] [] M' R)) ∧ (¬ ((M 100 20) = 38) → R (some (.int 1)) M)) ∧ (¬ ((M 100 18) = 3) → R (some (.int 1)) M)) : At l G (d + 4) mX8_both 10 [some (.ref (G.1 100)), some (.int v1)] [] M R := by
  refine a_aload_n eX8_both_10 rfl ?_
  refine a_bipush (v := 38) eX8_both_11 (by decide) ?_
  refine qX8_279 rfl eX8_both_13 (Nat.le_of_ble_eq_true rfl) ?_
  refine Tr.of rfl (Nat.le_of_ble_eq_true rfl) (vs := [some (.ref (G.1 100)), some (.int 38)]) rfl ?_
  refine a_aload_n eX8_isSign_0 rfl ?_
  refine gX8_18 eX8_isSign_1 fl_X8_248 ?_
  refine a_iconst (v := 3) eX8_isSign_4 (by decide) ?_
  refine a_icmp_ne (tgt := 20) eX8_isSign_5 (by decide) (fun w1 => ?_) (fun w1 => ?_)
  · replace hv := hv.2 w1
    refine a_iconst (v := 0) eX8_isSign_20 (by decide) ?_
    refine a_iret eX8_isSign_21 rfl rfl (ret_i ?_)
    refine a_if_eq (tgt := 43) eX8_both_16 (by decide) (fun _ => ?_) (fun h => absurd h (by decide))
    refine a_iconst (v := 1) eX8_both_43 (by decide) ?_
    exact a_iret eX8_both_44 rfl rfl hv
  · replace hv := hv.1 w1
    refine a_aload_n eX8_isSign_8 rfl ?_
    refine gX8_20 eX8_isSign_9 fl_X8_257 ?_
    refine a_iload_n eX8_isSign_12 rfl ?_
    refine a_icmp_ne (tgt := 20) eX8_isSign_13 (by decide) (fun w2 => ?_) (fun w2 => ?_)
    · replace hv := hv.2 w2
      refine a_iconst (v := 0) eX8_isSign_20 (by decide) ?_
      refine a_iret eX8_isSign_21 rfl rfl (ret_i ?_)
      refine a_if_eq (tgt := 43) eX8_both_16 (by decide) (fun _ => ?_) (fun h => absurd h (by decide))
      refine a_iconst (v := 1) eX8_both_43 (by decide) ?_
      exact a_iret eX8_both_44 rfl rfl hv
    · replace hv := hv.1 w2
      refine a_iconst (v := 1) eX8_isSign_16 (by decide) ?_
      refine a_goto (tgt := 21) eX8_isSign_17 (by decide) ?_
      refine a_iret eX8_isSign_21 rfl rfl (ret_i ?_)
      refine a_if_eq (tgt := 43) eX8_both_16 (by decide) (fun h => absurd h (by decide)) (fun _ => ?_)
      refine a_aload_n eX8_both_19 rfl ?_
      exact qX8_282 rfl eX8_both_20 (Nat.le_of_ble_eq_true rfl) (tr_V [true, true] rfl rfl hv)
theorem bX8_both_23 {l : Launch} {G : GT} {d : Nat} {M : Mem} {R : Option Value → Mem → Prop} {v1 : Int32} (hv : Tr l G (d + 3) mX8_test [.ref (G.1 100), .int v1] M (kI fun q M' => At l G (d + 4) mX8_both 28 [some (.ref (G.1 100)), some (.int v1)] [.int q] M' R)) : At l G (d + 4) mX8_both 23 [some (.ref (G.1 100)), some (.int v1)] [] M R := by
  refine a_aload_n eX8_both_23 rfl ?_
  refine a_iload_n eX8_both_24 rfl ?_
  exact qX8_288 rfl eX8_both_25 (Nat.le_of_ble_eq_true rfl) (tr_I [true, true] rfl rfl hv)
theorem bX8_both_28 {l : Launch} {G : GT} {d : Nat} {M : Mem} {R : Option Value → Mem → Prop} {v1 : Int32} {r : Int32} (hv : (r = 0 → R (some (.int 0)) M) ∧ (¬ (r = 0) → vp_in ((M 100 24) + (2 * (M 100 23))) 3084 ∧ vp_in ((((um M 101 (ix ((M 100 24) + (2 * (M 100 23)))) 2) 100 24) + (2 * ((um M 101 (ix ((M 100 24) + (2 * (M 100 23)))) 2) 100 23))) + 1) 3084 ∧ ∀ M4 : Mem, M4 = um (um M 101 (ix ((M 100 24) + (2 * (M 100 23)))) 2) 101 (ix ((((um M 101 (ix ((M 100 24) + (2 * (M 100 23)))) 2) 100 24) + (2 * ((um M 101 (ix ((M 100 24) + (2 * (M 100 23)))) 2) 100 23))) + 1)) 38 → At l G (d + 4) mX8_both 10 [some (.ref (G.1 100)), some (.int v1)] [] (um M4 100 23 ((M4 100 23) + 1)) R)) : At l G (d + 4) mX8_both 28 [some (.ref (G.1 100)), some (.int v1)] [.int r] M R := by
  refine a_if_ne (tgt := 33) eX8_both_28 (by decide) (fun w1 => ?_) (fun w1 => ?_)
  · replace hv := hv.2 w1
    refine a_aload_n eX8_both_33 rfl ?_
    refine a_iconst (v := 2) eX8_both_34 (by decide) ?_
    refine a_bipush (v := 38) eX8_both_35 (by decide) ?_
    refine qX8_285 rfl eX8_both_37 (Nat.le_of_ble_eq_true rfl) ?_
    refine Tr.of rfl (Nat.le_of_ble_eq_true rfl) (vs := [some (.ref (G.1 100)), some (.int 2), some (.int 38)]) rfl ?_
    refine a_aload_n eX8_step_0 rfl ?_
    refine gX8_0 eX8_step_1 fl_X8_7 ?_
    refine a_aload_n eX8_step_4 rfl ?_
    refine gX8_24 eX8_step_5 fl_X8_270 ?_
    refine a_iconst (v := 2) eX8_step_8 (by decide) ?_
    refine a_aload_n eX8_step_9 rfl ?_
    refine gX8_23 eX8_step_10 fl_X8_273 ?_
    refine a_imul eX8_step_13 ?_
    refine a_iadd eX8_step_14 ?_
    refine a_iload_n eX8_step_15 rfl ?_
    obtain ⟨h2, hv⟩ := hv
    refine a_iast eX8_step_16 sA101 kA101 h2 ?_
    refine a_aload_n eX8_step_17 rfl ?_
    refine gX8_0 eX8_step_18 fl_X8_7 ?_
    refine a_aload_n eX8_step_21 rfl ?_
    refine gX8_24 eX8_step_22 fl_X8_270 ?_
    refine a_iconst (v := 2) eX8_step_25 (by decide) ?_
    refine a_aload_n eX8_step_26 rfl ?_
    refine gX8_23 eX8_step_27 fl_X8_273 ?_
    refine a_imul eX8_step_30 ?_
    refine a_iadd eX8_step_31 ?_
    refine a_iconst (v := 1) eX8_step_32 (by decide) ?_
    refine a_iadd eX8_step_33 ?_
    refine a_iload_n eX8_step_34 rfl ?_
    obtain ⟨h3, hv⟩ := hv
    refine a_iast eX8_step_35 sA101 kA101 h3 ?_
    refine a_nm (fun M4 eM4 => ?_)
    replace hv := hv M4 eM4
    refine a_aload_n eX8_step_36 rfl ?_
    refine a_dup eX8_step_37 rfl ?_
    refine gX8_23 eX8_step_38 fl_X8_273 ?_
    refine a_iconst (v := 1) eX8_step_41 (by decide) ?_
    refine a_iadd eX8_step_42 ?_
    refine pX8_23 eX8_step_43 fl_X8_273 ?_
    refine a_vret eX8_step_46 rfl (ret_v ?_)
    refine a_goto (tgt := 10) eX8_both_40 (by decide) ?_
    exact a_weak [true, true] rfl rfl hv
  · replace hv := hv.1 w1
    refine a_iconst (v := 0) eX8_both_31 (by decide) ?_
    exact a_iret eX8_both_32 rfl rfl hv
theorem tX8_test {l : Launch} {G : GT} {d : Nat} {M : Mem} {R : Option Value → Mem → Prop} {v1 : Int32} (hv : Tr l G (d + 3) mX8_sum [.ref (G.1 100), .int v1] M (kI fun q M' => At l G (d + 4) mX8_test 5 [some (.ref (G.1 100)), some (.int v1), none] [.int q] M' R)) : Tr l G (d + 4) mX8_test [.ref (G.1 100), .int v1] M R := by
  refine Tr.of rfl (Nat.le_of_ble_eq_true rfl) (vs := [some (.ref (G.1 100)), some (.int v1), none]) rfl ?_
  refine a_aload_n eX8_test_0 rfl ?_
  refine a_iload_n eX8_test_1 rfl ?_
  exact qX8_291 rfl eX8_test_2 (Nat.le_of_ble_eq_true rfl) (tr_I [true, true, false] rfl rfl hv)
theorem bX8_test_5 {l : Launch} {G : GT} {d : Nat} {M : Mem} {R : Option Value → Mem → Prop} {v1 : Int32} {r : Int32} (hv : (r = 0 → R (some (.int 0)) M) ∧ (¬ (r = 0) → ((M 100 18) = 3 → ((M 100 20) = 60 → Tr l G (d + 3) mX8_nextToken [.ref (G.1 100)] M (kV fun M' => At l G (d + 4) mX8_test 46 [some (.ref (G.1 100)), some (.int v1), some (.int (M 100 20))] [] M' R)) ∧ (¬ ((M 100 20) = 60) → ((M 100 18) = 3 → ((M 100 20) = 61 → Tr l G (d + 3) mX8_nextToken [.ref (G.1 100)] M (kV fun M' => At l G (d + 4) mX8_test 46 [some (.ref (G.1 100)), some (.int v1), some (.int (M 100 20))] [] M' R)) ∧ (¬ ((M 100 20) = 61) → ((M 100 18) = 3 → ((M 100 20) = 62 → Tr l G (d + 3) mX8_nextToken [.ref (G.1 100)] M (kV fun M' => At l G (d + 4) mX8_test 46 [some (.ref (G.1 100)), some (.int v1), some (.int (M 100 20))] [] M' R)) ∧ (¬ ((M 100 20) = 62) → R (some (.int 1)) M)) ∧ (¬ ((M 100 18) = 3) → R (some (.int 1)) M))) ∧ (¬ ((M 100 18) = 3) → ((M 100 18) = 3 → ((M 100 20) = 62 → Tr l G (d + 3) mX8_nextToken [.ref (G.1 100)] M (kV fun M' => At l G (d + 4) mX8_test 46 [some (.ref (G.1 100)), some (.int v1), some (.int (M 100 20))] [] M' R)) ∧ (¬ ((M 100 20) = 62) → R (some (.int 1)) M)) ∧ (¬ ((M 100 18) = 3) → R (some (.int 1)) M)))) ∧ (¬ ((M 100 18) = 3) → ((M 100 18) = 3 → ((M 100 20) = 61 → Tr l G (d + 3) mX8_nextToken [.ref (G.1 100)] M (kV fun M' => At l G (d + 4) mX8_test 46 [some (.ref (G.1 100)), some (.int v1), some (.int (M 100 20))] [] M' R)) ∧ (¬ ((M 100 20) = 61) → ((M 100 18) = 3 → ((M 100 20) = 62 → Tr l G (d + 3) mX8_nextToken [.ref (G.1 100)] M (kV fun M' => At l G (d + 4) mX8_test 46 [some (.ref (G.1 100)), some (.int v1), some (.int (M 100 20))] [] M' R)) ∧ (¬ ((M 100 20) = 62) → R (some (.int 1)) M)) ∧ (¬ ((M 100 18) = 3) → R (some (.int 1)) M))) ∧ (¬ ((M 100 18) = 3) → ((M 100 18) = 3 → ((M 100 20) = 62 → Tr l G (d + 3) mX8_nextToken [.ref (G.1 100)] M (kV fun M' => At l G (d + 4) mX8_test 46 [some (.ref (G.1 100)), some (.int v1), some (.int (M 100 20))] [] M' R)) ∧ (¬ ((M 100 20) = 62) → R (some (.int 1)) M)) ∧ (¬ ((M 100 18) = 3) → R (some (.int 1)) M))))) : At l G (d + 4) mX8_test 5 [some (.ref (G.1 100)), some (.int v1), none] [.int r] M R := by
  refine a_if_ne (tgt := 10) eX8_test_5 (by decide) (fun w1 => ?_) (fun w1 => ?_)
  · replace hv := hv.2 w1
    refine a_aload_n eX8_test_10 rfl ?_
    refine a_bipush (v := 60) eX8_test_11 (by decide) ?_
    refine qX8_279 rfl eX8_test_13 (Nat.le_of_ble_eq_true rfl) ?_
    refine Tr.of rfl (Nat.le_of_ble_eq_true rfl) (vs := [some (.ref (G.1 100)), some (.int 60)]) rfl ?_
    refine a_aload_n eX8_isSign_0 rfl ?_
    refine gX8_18 eX8_isSign_1 fl_X8_248 ?_
    refine a_iconst (v := 3) eX8_isSign_4 (by decide) ?_
    refine a_icmp_ne (tgt := 20) eX8_isSign_5 (by decide) (fun w2 => ?_) (fun w2 => ?_)
    · replace hv := hv.2 w2
      refine a_iconst (v := 0) eX8_isSign_20 (by decide) ?_
      refine a_iret eX8_isSign_21 rfl rfl (ret_i ?_)
      refine a_if_ne (tgt := 37) eX8_test_16 (by decide) (fun h => absurd h (by decide)) (fun _ => ?_)
      refine a_aload_n eX8_test_19 rfl ?_
      refine a_bipush (v := 61) eX8_test_20 (by decide) ?_
      refine qX8_279 rfl eX8_test_22 (Nat.le_of_ble_eq_true rfl) ?_
      refine Tr.of rfl (Nat.le_of_ble_eq_true rfl) (vs := [some (.ref (G.1 100)), some (.int 61)]) rfl ?_
      refine a_aload_n eX8_isSign_0 rfl ?_
      refine gX8_18 eX8_isSign_1 fl_X8_248 ?_
      refine a_iconst (v := 3) eX8_isSign_4 (by decide) ?_
      refine a_icmp_ne (tgt := 20) eX8_isSign_5 (by decide) (fun w3 => ?_) (fun w3 => ?_)
      · replace hv := hv.2 w3
        refine a_iconst (v := 0) eX8_isSign_20 (by decide) ?_
        refine a_iret eX8_isSign_21 rfl rfl (ret_i ?_)
        refine a_if_ne (tgt := 37) eX8_test_25 (by decide) (fun h => absurd h (by decide)) (fun _ => ?_)
        refine a_aload_n eX8_test_28 rfl ?_
        refine a_bipush (v := 62) eX8_test_29 (by decide) ?_
        refine qX8_279 rfl eX8_test_31 (Nat.le_of_ble_eq_true rfl) ?_
        refine Tr.of rfl (Nat.le_of_ble_eq_true rfl) (vs := [some (.ref (G.1 100)), some (.int 62)]) rfl ?_
        refine a_aload_n eX8_isSign_0 rfl ?_
        refine gX8_18 eX8_isSign_1 fl_X8_248 ?_
        refine a_iconst (v := 3) eX8_isSign_4 (by decide) ?_
        refine a_icmp_ne (tgt := 20) eX8_isSign_5 (by decide) (fun w4 => ?_) (fun w4 => ?_)
        · replace hv := hv.2 w4
          refine a_iconst (v := 0) eX8_isSign_20 (by decide) ?_
          refine a_iret eX8_isSign_21 rfl rfl (ret_i ?_)
          refine a_if_eq (tgt := 62) eX8_test_34 (by decide) (fun _ => ?_) (fun h => absurd h (by decide))
          refine a_iconst (v := 1) eX8_test_62 (by decide) ?_
          exact a_iret eX8_test_63 rfl rfl hv
        · replace hv := hv.1 w4
          refine a_aload_n eX8_isSign_8 rfl ?_
          refine gX8_20 eX8_isSign_9 fl_X8_257 ?_
          refine a_iload_n eX8_isSign_12 rfl ?_
          refine a_icmp_ne (tgt := 20) eX8_isSign_13 (by decide) (fun w5 => ?_) (fun w5 => ?_)
          · replace hv := hv.2 w5
            refine a_iconst (v := 0) eX8_isSign_20 (by decide) ?_
            refine a_iret eX8_isSign_21 rfl rfl (ret_i ?_)
            refine a_if_eq (tgt := 62) eX8_test_34 (by decide) (fun _ => ?_) (fun h => absurd h (by decide))
            refine a_iconst (v := 1) eX8_test_62 (by decide) ?_
            exact a_iret eX8_test_63 rfl rfl hv
          · replace hv := hv.1 w5
            refine a_iconst (v := 1) eX8_isSign_16 (by decide) ?_
            refine a_goto (tgt := 21) eX8_isSign_17 (by decide) ?_
            refine a_iret eX8_isSign_21 rfl rfl (ret_i ?_)
            refine a_if_eq (tgt := 62) eX8_test_34 (by decide) (fun h => absurd h (by decide)) (fun _ => ?_)
            refine a_aload_n eX8_test_37 rfl ?_
            refine gX8_20 eX8_test_38 fl_X8_257 ?_
            refine a_istore_n (vs' := [some (.ref (G.1 100)), some (.int v1), some (.int (M 100 20))]) eX8_test_41 rfl (Nat.le_of_ble_eq_true rfl) rfl ?_
            refine a_aload_n eX8_test_42 rfl ?_
            exact qX8_282 rfl eX8_test_43 (Nat.le_of_ble_eq_true rfl) (tr_V [true, true, true] rfl rfl hv)
      · replace hv := hv.1 w3
        refine a_aload_n eX8_isSign_8 rfl ?_
        refine gX8_20 eX8_isSign_9 fl_X8_257 ?_
        refine a_iload_n eX8_isSign_12 rfl ?_
        refine a_icmp_ne (tgt := 20) eX8_isSign_13 (by decide) (fun w6 => ?_) (fun w6 => ?_)
        · replace hv := hv.2 w6
          refine a_iconst (v := 0) eX8_isSign_20 (by decide) ?_
          refine a_iret eX8_isSign_21 rfl rfl (ret_i ?_)
          refine a_if_ne (tgt := 37) eX8_test_25 (by decide) (fun h => absurd h (by decide)) (fun _ => ?_)
          refine a_aload_n eX8_test_28 rfl ?_
          refine a_bipush (v := 62) eX8_test_29 (by decide) ?_
          refine qX8_279 rfl eX8_test_31 (Nat.le_of_ble_eq_true rfl) ?_
          refine Tr.of rfl (Nat.le_of_ble_eq_true rfl) (vs := [some (.ref (G.1 100)), some (.int 62)]) rfl ?_
          refine a_aload_n eX8_isSign_0 rfl ?_
          refine gX8_18 eX8_isSign_1 fl_X8_248 ?_
          refine a_iconst (v := 3) eX8_isSign_4 (by decide) ?_
          refine a_icmp_ne (tgt := 20) eX8_isSign_5 (by decide) (fun w7 => ?_) (fun w7 => ?_)
          · replace hv := hv.2 w7
            refine a_iconst (v := 0) eX8_isSign_20 (by decide) ?_
            refine a_iret eX8_isSign_21 rfl rfl (ret_i ?_)
            refine a_if_eq (tgt := 62) eX8_test_34 (by decide) (fun _ => ?_) (fun h => absurd h (by decide))
            refine a_iconst (v := 1) eX8_test_62 (by decide) ?_
            exact a_iret eX8_test_63 rfl rfl hv
          · replace hv := hv.1 w7
            refine a_aload_n eX8_isSign_8 rfl ?_
            refine gX8_20 eX8_isSign_9 fl_X8_257 ?_
            refine a_iload_n eX8_isSign_12 rfl ?_
            refine a_icmp_ne (tgt := 20) eX8_isSign_13 (by decide) (fun w8 => ?_) (fun w8 => ?_)
            · replace hv := hv.2 w8
              refine a_iconst (v := 0) eX8_isSign_20 (by decide) ?_
              refine a_iret eX8_isSign_21 rfl rfl (ret_i ?_)
              refine a_if_eq (tgt := 62) eX8_test_34 (by decide) (fun _ => ?_) (fun h => absurd h (by decide))
              refine a_iconst (v := 1) eX8_test_62 (by decide) ?_
              exact a_iret eX8_test_63 rfl rfl hv
            · replace hv := hv.1 w8
              refine a_iconst (v := 1) eX8_isSign_16 (by decide) ?_
              refine a_goto (tgt := 21) eX8_isSign_17 (by decide) ?_
              refine a_iret eX8_isSign_21 rfl rfl (ret_i ?_)
              refine a_if_eq (tgt := 62) eX8_test_34 (by decide) (fun h => absurd h (by decide)) (fun _ => ?_)
              refine a_aload_n eX8_test_37 rfl ?_
              refine gX8_20 eX8_test_38 fl_X8_257 ?_
              refine a_istore_n (vs' := [some (.ref (G.1 100)), some (.int v1), some (.int (M 100 20))]) eX8_test_41 rfl (Nat.le_of_ble_eq_true rfl) rfl ?_
              refine a_aload_n eX8_test_42 rfl ?_
              exact qX8_282 rfl eX8_test_43 (Nat.le_of_ble_eq_true rfl) (tr_V [true, true, true] rfl rfl hv)
        · replace hv := hv.1 w6
          refine a_iconst (v := 1) eX8_isSign_16 (by decide) ?_
          refine a_goto (tgt := 21) eX8_isSign_17 (by decide) ?_
          refine a_iret eX8_isSign_21 rfl rfl (ret_i ?_)
          refine a_if_ne (tgt := 37) eX8_test_25 (by decide) (fun _ => ?_) (fun h => absurd h (by decide))
          refine a_aload_n eX8_test_37 rfl ?_
          refine gX8_20 eX8_test_38 fl_X8_257 ?_
          refine a_istore_n (vs' := [some (.ref (G.1 100)), some (.int v1), some (.int (M 100 20))]) eX8_test_41 rfl (Nat.le_of_ble_eq_true rfl) rfl ?_
          refine a_aload_n eX8_test_42 rfl ?_
          exact qX8_282 rfl eX8_test_43 (Nat.le_of_ble_eq_true rfl) (tr_V [true, true, true] rfl rfl hv)
    · replace hv := hv.1 w2
      refine a_aload_n eX8_isSign_8 rfl ?_
      refine gX8_20 eX8_isSign_9 fl_X8_257 ?_
      refine a_iload_n eX8_isSign_12 rfl ?_
      refine a_icmp_ne (tgt := 20) eX8_isSign_13 (by decide) (fun w9 => ?_) (fun w9 => ?_)
      · replace hv := hv.2 w9
        refine a_iconst (v := 0) eX8_isSign_20 (by decide) ?_
        refine a_iret eX8_isSign_21 rfl rfl (ret_i ?_)
        refine a_if_ne (tgt := 37) eX8_test_16 (by decide) (fun h => absurd h (by decide)) (fun _ => ?_)
        refine a_aload_n eX8_test_19 rfl ?_
        refine a_bipush (v := 61) eX8_test_20 (by decide) ?_
        refine qX8_279 rfl eX8_test_22 (Nat.le_of_ble_eq_true rfl) ?_
        refine Tr.of rfl (Nat.le_of_ble_eq_true rfl) (vs := [some (.ref (G.1 100)), some (.int 61)]) rfl ?_
        refine a_aload_n eX8_isSign_0 rfl ?_
        refine gX8_18 eX8_isSign_1 fl_X8_248 ?_
        refine a_iconst (v := 3) eX8_isSign_4 (by decide) ?_
        refine a_icmp_ne (tgt := 20) eX8_isSign_5 (by decide) (fun w10 => ?_) (fun w10 => ?_)
        · replace hv := hv.2 w10
          refine a_iconst (v := 0) eX8_isSign_20 (by decide) ?_
          refine a_iret eX8_isSign_21 rfl rfl (ret_i ?_)
          refine a_if_ne (tgt := 37) eX8_test_25 (by decide) (fun h => absurd h (by decide)) (fun _ => ?_)
          refine a_aload_n eX8_test_28 rfl ?_
          refine a_bipush (v := 62) eX8_test_29 (by decide) ?_
          refine qX8_279 rfl eX8_test_31 (Nat.le_of_ble_eq_true rfl) ?_
          refine Tr.of rfl (Nat.le_of_ble_eq_true rfl) (vs := [some (.ref (G.1 100)), some (.int 62)]) rfl ?_
          refine a_aload_n eX8_isSign_0 rfl ?_
          refine gX8_18 eX8_isSign_1 fl_X8_248 ?_
          refine a_iconst (v := 3) eX8_isSign_4 (by decide) ?_
          refine a_icmp_ne (tgt := 20) eX8_isSign_5 (by decide) (fun w11 => ?_) (fun w11 => ?_)
          · replace hv := hv.2 w11
            refine a_iconst (v := 0) eX8_isSign_20 (by decide) ?_
            refine a_iret eX8_isSign_21 rfl rfl (ret_i ?_)
            refine a_if_eq (tgt := 62) eX8_test_34 (by decide) (fun _ => ?_) (fun h => absurd h (by decide))
            refine a_iconst (v := 1) eX8_test_62 (by decide) ?_
            exact a_iret eX8_test_63 rfl rfl hv
          · replace hv := hv.1 w11
            refine a_aload_n eX8_isSign_8 rfl ?_
            refine gX8_20 eX8_isSign_9 fl_X8_257 ?_
            refine a_iload_n eX8_isSign_12 rfl ?_
            refine a_icmp_ne (tgt := 20) eX8_isSign_13 (by decide) (fun w12 => ?_) (fun w12 => ?_)
            · replace hv := hv.2 w12
              refine a_iconst (v := 0) eX8_isSign_20 (by decide) ?_
              refine a_iret eX8_isSign_21 rfl rfl (ret_i ?_)
              refine a_if_eq (tgt := 62) eX8_test_34 (by decide) (fun _ => ?_) (fun h => absurd h (by decide))
              refine a_iconst (v := 1) eX8_test_62 (by decide) ?_
              exact a_iret eX8_test_63 rfl rfl hv
            · replace hv := hv.1 w12
              refine a_iconst (v := 1) eX8_isSign_16 (by decide) ?_
              refine a_goto (tgt := 21) eX8_isSign_17 (by decide) ?_
              refine a_iret eX8_isSign_21 rfl rfl (ret_i ?_)
              refine a_if_eq (tgt := 62) eX8_test_34 (by decide) (fun h => absurd h (by decide)) (fun _ => ?_)
              refine a_aload_n eX8_test_37 rfl ?_
              refine gX8_20 eX8_test_38 fl_X8_257 ?_
              refine a_istore_n (vs' := [some (.ref (G.1 100)), some (.int v1), some (.int (M 100 20))]) eX8_test_41 rfl (Nat.le_of_ble_eq_true rfl) rfl ?_
              refine a_aload_n eX8_test_42 rfl ?_
              exact qX8_282 rfl eX8_test_43 (Nat.le_of_ble_eq_true rfl) (tr_V [true, true, true] rfl rfl hv)
        · replace hv := hv.1 w10
          refine a_aload_n eX8_isSign_8 rfl ?_
          refine gX8_20 eX8_isSign_9 fl_X8_257 ?_
          refine a_iload_n eX8_isSign_12 rfl ?_
          refine a_icmp_ne (tgt := 20) eX8_isSign_13 (by decide) (fun w13 => ?_) (fun w13 => ?_)
          · replace hv := hv.2 w13
            refine a_iconst (v := 0) eX8_isSign_20 (by decide) ?_
            refine a_iret eX8_isSign_21 rfl rfl (ret_i ?_)
            refine a_if_ne (tgt := 37) eX8_test_25 (by decide) (fun h => absurd h (by decide)) (fun _ => ?_)
            refine a_aload_n eX8_test_28 rfl ?_
            refine a_bipush (v := 62) eX8_test_29 (by decide) ?_
            refine qX8_279 rfl eX8_test_31 (Nat.le_of_ble_eq_true rfl) ?_
            refine Tr.of rfl (Nat.le_of_ble_eq_true rfl) (vs := [some (.ref (G.1 100)), some (.int 62)]) rfl ?_
            refine a_aload_n eX8_isSign_0 rfl ?_
            refine gX8_18 eX8_isSign_1 fl_X8_248 ?_
            refine a_iconst (v := 3) eX8_isSign_4 (by decide) ?_
            refine a_icmp_ne (tgt := 20) eX8_isSign_5 (by decide) (fun w14 => ?_) (fun w14 => ?_)
            · replace hv := hv.2 w14
              refine a_iconst (v := 0) eX8_isSign_20 (by decide) ?_
              refine a_iret eX8_isSign_21 rfl rfl (ret_i ?_)
              refine a_if_eq (tgt := 62) eX8_test_34 (by decide) (fun _ => ?_) (fun h => absurd h (by decide))
              refine a_iconst (v := 1) eX8_test_62 (by decide) ?_
              exact a_iret eX8_test_63 rfl rfl hv
            · replace hv := hv.1 w14
              refine a_aload_n eX8_isSign_8 rfl ?_
              refine gX8_20 eX8_isSign_9 fl_X8_257 ?_
              refine a_iload_n eX8_isSign_12 rfl ?_
              refine a_icmp_ne (tgt := 20) eX8_isSign_13 (by decide) (fun w15 => ?_) (fun w15 => ?_)
              · replace hv := hv.2 w15
                refine a_iconst (v := 0) eX8_isSign_20 (by decide) ?_
                refine a_iret eX8_isSign_21 rfl rfl (ret_i ?_)
                refine a_if_eq (tgt := 62) eX8_test_34 (by decide) (fun _ => ?_) (fun h => absurd h (by decide))
                refine a_iconst (v := 1) eX8_test_62 (by decide) ?_
                exact a_iret eX8_test_63 rfl rfl hv
              · replace hv := hv.1 w15
                refine a_iconst (v := 1) eX8_isSign_16 (by decide) ?_
                refine a_goto (tgt := 21) eX8_isSign_17 (by decide) ?_
                refine a_iret eX8_isSign_21 rfl rfl (ret_i ?_)
                refine a_if_eq (tgt := 62) eX8_test_34 (by decide) (fun h => absurd h (by decide)) (fun _ => ?_)
                refine a_aload_n eX8_test_37 rfl ?_
                refine gX8_20 eX8_test_38 fl_X8_257 ?_
                refine a_istore_n (vs' := [some (.ref (G.1 100)), some (.int v1), some (.int (M 100 20))]) eX8_test_41 rfl (Nat.le_of_ble_eq_true rfl) rfl ?_
                refine a_aload_n eX8_test_42 rfl ?_
                exact qX8_282 rfl eX8_test_43 (Nat.le_of_ble_eq_true rfl) (tr_V [true, true, true] rfl rfl hv)
          · replace hv := hv.1 w13
            refine a_iconst (v := 1) eX8_isSign_16 (by decide) ?_
            refine a_goto (tgt := 21) eX8_isSign_17 (by decide) ?_
            refine a_iret eX8_isSign_21 rfl rfl (ret_i ?_)
            refine a_if_ne (tgt := 37) eX8_test_25 (by decide) (fun _ => ?_) (fun h => absurd h (by decide))
            refine a_aload_n eX8_test_37 rfl ?_
            refine gX8_20 eX8_test_38 fl_X8_257 ?_
            refine a_istore_n (vs' := [some (.ref (G.1 100)), some (.int v1), some (.int (M 100 20))]) eX8_test_41 rfl (Nat.le_of_ble_eq_true rfl) rfl ?_
            refine a_aload_n eX8_test_42 rfl ?_
            exact qX8_282 rfl eX8_test_43 (Nat.le_of_ble_eq_true rfl) (tr_V [true, true, true] rfl rfl hv)
      · replace hv := hv.1 w9
        refine a_iconst (v := 1) eX8_isSign_16 (by decide) ?_
        refine a_goto (tgt := 21) eX8_isSign_17 (by decide) ?_
        refine a_iret eX8_isSign_21 rfl rfl (ret_i ?_)
        refine a_if_ne (tgt := 37) eX8_test_16 (by decide) (fun _ => ?_) (fun h => absurd h (by decide))
        refine a_aload_n eX8_test_37 rfl ?_
        refine gX8_20 eX8_test_38 fl_X8_257 ?_
        refine a_istore_n (vs' := [some (.ref (G.1 100)), some (.int v1), some (.int (M 100 20))]) eX8_test_41 rfl (Nat.le_of_ble_eq_true rfl) rfl ?_
        refine a_aload_n eX8_test_42 rfl ?_
        exact qX8_282 rfl eX8_test_43 (Nat.le_of_ble_eq_true rfl) (tr_V [true, true, true] rfl rfl hv)
  · replace hv := hv.1 w1
    refine a_iconst (v := 0) eX8_test_8 (by decide) ?_
    exact a_iret eX8_test_9 rfl rfl hv
theorem bX8_test_46 {l : Launch} {G : GT} {d : Nat} {M : Mem} {R : Option Value → Mem → Prop} {v1 : Int32} {v2 : Int32} (hv : Tr l G (d + 3) mX8_sum [.ref (G.1 100), .int v1] M (kI fun q M' => At l G (d + 4) mX8_test 51 [some (.ref (G.1 100)), none, some (.int v2)] [.int q] M' R)) : At l G (d + 4) mX8_test 46 [some (.ref (G.1 100)), some (.int v1), some (.int v2)] [] M R := by
  refine a_aload_n eX8_test_46 rfl ?_
  refine a_iload_n eX8_test_47 rfl ?_
  exact qX8_291 rfl eX8_test_48 (Nat.le_of_ble_eq_true rfl) (tr_I [true, false, true] rfl rfl hv)
theorem bX8_test_51 {l : Launch} {G : GT} {d : Nat} {M : Mem} {R : Option Value → Mem → Prop} {v2 : Int32} {r : Int32} (hv : (r = 0 → R (some (.int 0)) M) ∧ (¬ (r = 0) → vp_in ((M 100 24) + (2 * (M 100 23))) 3084 ∧ vp_in ((((um M 101 (ix ((M 100 24) + (2 * (M 100 23)))) 2) 100 24) + (2 * ((um M 101 (ix ((M 100 24) + (2 * (M 100 23)))) 2) 100 23))) + 1) 3084 ∧ ∀ M4 : Mem, M4 = um (um M 101 (ix ((M 100 24) + (2 * (M 100 23)))) 2) 101 (ix ((((um M 101 (ix ((M 100 24) + (2 * (M 100 23)))) 2) 100 24) + (2 * ((um M 101 (ix ((M 100 24) + (2 * (M 100 23)))) 2) 100 23))) + 1)) v2 → R (some (.int 1)) (um M4 100 23 ((M4 100 23) + 1)))) : At l G (d + 4) mX8_test 51 [some (.ref (G.1 100)), none, some (.int v2)] [.int r] M R := by
  refine a_if_ne (tgt := 56) eX8_test_51 (by decide) (fun w1 => ?_) (fun w1 => ?_)
  · replace hv := hv.2 w1
    refine a_aload_n eX8_test_56 rfl ?_
    refine a_iconst (v := 2) eX8_test_57 (by decide) ?_
    refine a_iload_n eX8_test_58 rfl ?_
    refine qX8_285 rfl eX8_test_59 (Nat.le_of_ble_eq_true rfl) ?_
    refine Tr.of rfl (Nat.le_of_ble_eq_true rfl) (vs := [some (.ref (G.1 100)), some (.int 2), some (.int v2)]) rfl ?_
    refine a_aload_n eX8_step_0 rfl ?_
    refine gX8_0 eX8_step_1 fl_X8_7 ?_
    refine a_aload_n eX8_step_4 rfl ?_
    refine gX8_24 eX8_step_5 fl_X8_270 ?_
    refine a_iconst (v := 2) eX8_step_8 (by decide) ?_
    refine a_aload_n eX8_step_9 rfl ?_
    refine gX8_23 eX8_step_10 fl_X8_273 ?_
    refine a_imul eX8_step_13 ?_
    refine a_iadd eX8_step_14 ?_
    refine a_iload_n eX8_step_15 rfl ?_
    obtain ⟨h2, hv⟩ := hv
    refine a_iast eX8_step_16 sA101 kA101 h2 ?_
    refine a_aload_n eX8_step_17 rfl ?_
    refine gX8_0 eX8_step_18 fl_X8_7 ?_
    refine a_aload_n eX8_step_21 rfl ?_
    refine gX8_24 eX8_step_22 fl_X8_270 ?_
    refine a_iconst (v := 2) eX8_step_25 (by decide) ?_
    refine a_aload_n eX8_step_26 rfl ?_
    refine gX8_23 eX8_step_27 fl_X8_273 ?_
    refine a_imul eX8_step_30 ?_
    refine a_iadd eX8_step_31 ?_
    refine a_iconst (v := 1) eX8_step_32 (by decide) ?_
    refine a_iadd eX8_step_33 ?_
    refine a_iload_n eX8_step_34 rfl ?_
    obtain ⟨h3, hv⟩ := hv
    refine a_iast eX8_step_35 sA101 kA101 h3 ?_
    refine a_nm (fun M4 eM4 => ?_)
    replace hv := hv M4 eM4
    refine a_aload_n eX8_step_36 rfl ?_
    refine a_dup eX8_step_37 rfl ?_
    refine gX8_23 eX8_step_38 fl_X8_273 ?_
    refine a_iconst (v := 1) eX8_step_41 (by decide) ?_
    refine a_iadd eX8_step_42 ?_
    refine pX8_23 eX8_step_43 fl_X8_273 ?_
    refine a_vret eX8_step_46 rfl (ret_v ?_)
    refine a_iconst (v := 1) eX8_test_62 (by decide) ?_
    exact a_iret eX8_test_63 rfl rfl hv
  · replace hv := hv.1 w1
    refine a_iconst (v := 0) eX8_test_54 (by decide) ?_
    exact a_iret eX8_test_55 rfl rfl hv
theorem tX8_sum {l : Launch} {G : GT} {d : Nat} {M : Mem} {R : Option Value → Mem → Prop} {v1 : Int32} (hv : Tr l G (d + 3) mX8_term [.ref (G.1 100), .int v1] M (kI fun q M' => At l G (d + 4) mX8_sum 5 [some (.ref (G.1 100)), some (.int v1), none] [.int q] M' R)) : Tr l G (d + 4) mX8_sum [.ref (G.1 100), .int v1] M R := by
  refine Tr.of rfl (Nat.le_of_ble_eq_true rfl) (vs := [some (.ref (G.1 100)), some (.int v1), none]) rfl ?_
  refine a_aload_n eX8_sum_0 rfl ?_
  refine a_iload_n eX8_sum_1 rfl ?_
  exact qX8_294 rfl eX8_sum_2 (Nat.le_of_ble_eq_true rfl) (tr_I [true, true, false] rfl rfl hv)
theorem bX8_sum_5 {l : Launch} {G : GT} {d : Nat} {M : Mem} {R : Option Value → Mem → Prop} {v1 : Int32} {r : Int32} (hv : (r = 0 → R (some (.int 0)) M) ∧ (¬ (r = 0) → At l G (d + 4) mX8_sum 10 [some (.ref (G.1 100)), some (.int v1), none] [] M R)) : At l G (d + 4) mX8_sum 5 [some (.ref (G.1 100)), some (.int v1), none] [.int r] M R := by
  refine a_if_ne (tgt := 10) eX8_sum_5 (by decide) (fun w1 => ?_) (fun w1 => ?_)
  · replace hv := hv.2 w1
    exact a_weak [true, true, false] rfl rfl hv
  · replace hv := hv.1 w1
    refine a_iconst (v := 0) eX8_sum_8 (by decide) ?_
    exact a_iret eX8_sum_9 rfl rfl hv
theorem bX8_sum_10 {l : Launch} {G : GT} {d : Nat} {M : Mem} {R : Option Value → Mem → Prop} {v1 : Int32} (hv : ((M 100 18) = 3 → ((M 100 20) = 43 → Tr l G (d + 3) mX8_nextToken [.ref (G.1 100)] M (kV fun M' => At l G (d + 4) mX8_sum 37 [some (.ref (G.1 100)), some (.int v1), some (.int (M 100 20))] [] M' R)) ∧ (¬ ((M 100 20) = 43) → ((M 100 18) = 3 → ((M 100 20) = 45 → Tr l G (d + 3) mX8_nextToken [.ref (G.1 100)] M (kV fun M' => At l G (d + 4) mX8_sum 37 [some (.ref (G.1 100)), some (.int v1), some (.int (M 100 20))] [] M' R)) ∧ (¬ ((M 100 20) = 45) → R (some (.int 1)) M)) ∧ (¬ ((M 100 18) = 3) → R (some (.int 1)) M))) ∧ (¬ ((M 100 18) = 3) → ((M 100 18) = 3 → ((M 100 20) = 45 → Tr l G (d + 3) mX8_nextToken [.ref (G.1 100)] M (kV fun M' => At l G (d + 4) mX8_sum 37 [some (.ref (G.1 100)), some (.int v1), some (.int (M 100 20))] [] M' R)) ∧ (¬ ((M 100 20) = 45) → R (some (.int 1)) M)) ∧ (¬ ((M 100 18) = 3) → R (some (.int 1)) M))) : At l G (d + 4) mX8_sum 10 [some (.ref (G.1 100)), some (.int v1), none] [] M R := by
  refine a_aload_n eX8_sum_10 rfl ?_
  refine a_bipush (v := 43) eX8_sum_11 (by decide) ?_
  refine qX8_279 rfl eX8_sum_13 (Nat.le_of_ble_eq_true rfl) ?_
  refine Tr.of rfl (Nat.le_of_ble_eq_true rfl) (vs := [some (.ref (G.1 100)), some (.int 43)]) rfl ?_
  refine a_aload_n eX8_isSign_0 rfl ?_
  refine gX8_18 eX8_isSign_1 fl_X8_248 ?_
  refine a_iconst (v := 3) eX8_isSign_4 (by decide) ?_
  refine a_icmp_ne (tgt := 20) eX8_isSign_5 (by decide) (fun w1 => ?_) (fun w1 => ?_)
  · replace hv := hv.2 w1
    refine a_iconst (v := 0) eX8_isSign_20 (by decide) ?_
    refine a_iret eX8_isSign_21 rfl rfl (ret_i ?_)
    refine a_if_ne (tgt := 28) eX8_sum_16 (by decide) (fun h => absurd h (by decide)) (fun _ => ?_)
    refine a_aload_n eX8_sum_19 rfl ?_
    refine a_bipush (v := 45) eX8_sum_20 (by decide) ?_
    refine qX8_279 rfl eX8_sum_22 (Nat.le_of_ble_eq_true rfl) ?_
    refine Tr.of rfl (Nat.le_of_ble_eq_true rfl) (vs := [some (.ref (G.1 100)), some (.int 45)]) rfl ?_
    refine a_aload_n eX8_isSign_0 rfl ?_
    refine gX8_18 eX8_isSign_1 fl_X8_248 ?_
    refine a_iconst (v := 3) eX8_isSign_4 (by decide) ?_
    refine a_icmp_ne (tgt := 20) eX8_isSign_5 (by decide) (fun w2 => ?_) (fun w2 => ?_)
    · replace hv := hv.2 w2
      refine a_iconst (v := 0) eX8_isSign_20 (by decide) ?_
      refine a_iret eX8_isSign_21 rfl rfl (ret_i ?_)
      refine a_if_eq (tgt := 56) eX8_sum_25 (by decide) (fun _ => ?_) (fun h => absurd h (by decide))
      refine a_iconst (v := 1) eX8_sum_56 (by decide) ?_
      exact a_iret eX8_sum_57 rfl rfl hv
    · replace hv := hv.1 w2
      refine a_aload_n eX8_isSign_8 rfl ?_
      refine gX8_20 eX8_isSign_9 fl_X8_257 ?_
      refine a_iload_n eX8_isSign_12 rfl ?_
      refine a_icmp_ne (tgt := 20) eX8_isSign_13 (by decide) (fun w3 => ?_) (fun w3 => ?_)
      · replace hv := hv.2 w3
        refine a_iconst (v := 0) eX8_isSign_20 (by decide) ?_
        refine a_iret eX8_isSign_21 rfl rfl (ret_i ?_)
        refine a_if_eq (tgt := 56) eX8_sum_25 (by decide) (fun _ => ?_) (fun h => absurd h (by decide))
        refine a_iconst (v := 1) eX8_sum_56 (by decide) ?_
        exact a_iret eX8_sum_57 rfl rfl hv
      · replace hv := hv.1 w3
        refine a_iconst (v := 1) eX8_isSign_16 (by decide) ?_
        refine a_goto (tgt := 21) eX8_isSign_17 (by decide) ?_
        refine a_iret eX8_isSign_21 rfl rfl (ret_i ?_)
        refine a_if_eq (tgt := 56) eX8_sum_25 (by decide) (fun h => absurd h (by decide)) (fun _ => ?_)
        refine a_aload_n eX8_sum_28 rfl ?_
        refine gX8_20 eX8_sum_29 fl_X8_257 ?_
        refine a_istore_n (vs' := [some (.ref (G.1 100)), some (.int v1), some (.int (M 100 20))]) eX8_sum_32 rfl (Nat.le_of_ble_eq_true rfl) rfl ?_
        refine a_aload_n eX8_sum_33 rfl ?_
        exact qX8_282 rfl eX8_sum_34 (Nat.le_of_ble_eq_true rfl) (tr_V [true, true, true] rfl rfl hv)
  · replace hv := hv.1 w1
    refine a_aload_n eX8_isSign_8 rfl ?_
    refine gX8_20 eX8_isSign_9 fl_X8_257 ?_
    refine a_iload_n eX8_isSign_12 rfl ?_
    refine a_icmp_ne (tgt := 20) eX8_isSign_13 (by decide) (fun w4 => ?_) (fun w4 => ?_)
    · replace hv := hv.2 w4
      refine a_iconst (v := 0) eX8_isSign_20 (by decide) ?_
      refine a_iret eX8_isSign_21 rfl rfl (ret_i ?_)
      refine a_if_ne (tgt := 28) eX8_sum_16 (by decide) (fun h => absurd h (by decide)) (fun _ => ?_)
      refine a_aload_n eX8_sum_19 rfl ?_
      refine a_bipush (v := 45) eX8_sum_20 (by decide) ?_
      refine qX8_279 rfl eX8_sum_22 (Nat.le_of_ble_eq_true rfl) ?_
      refine Tr.of rfl (Nat.le_of_ble_eq_true rfl) (vs := [some (.ref (G.1 100)), some (.int 45)]) rfl ?_
      refine a_aload_n eX8_isSign_0 rfl ?_
      refine gX8_18 eX8_isSign_1 fl_X8_248 ?_
      refine a_iconst (v := 3) eX8_isSign_4 (by decide) ?_
      refine a_icmp_ne (tgt := 20) eX8_isSign_5 (by decide) (fun w5 => ?_) (fun w5 => ?_)
      · replace hv := hv.2 w5
        refine a_iconst (v := 0) eX8_isSign_20 (by decide) ?_
        refine a_iret eX8_isSign_21 rfl rfl (ret_i ?_)
        refine a_if_eq (tgt := 56) eX8_sum_25 (by decide) (fun _ => ?_) (fun h => absurd h (by decide))
        refine a_iconst (v := 1) eX8_sum_56 (by decide) ?_
        exact a_iret eX8_sum_57 rfl rfl hv
      · replace hv := hv.1 w5
        refine a_aload_n eX8_isSign_8 rfl ?_
        refine gX8_20 eX8_isSign_9 fl_X8_257 ?_
        refine a_iload_n eX8_isSign_12 rfl ?_
        refine a_icmp_ne (tgt := 20) eX8_isSign_13 (by decide) (fun w6 => ?_) (fun w6 => ?_)
        · replace hv := hv.2 w6
          refine a_iconst (v := 0) eX8_isSign_20 (by decide) ?_
          refine a_iret eX8_isSign_21 rfl rfl (ret_i ?_)
          refine a_if_eq (tgt := 56) eX8_sum_25 (by decide) (fun _ => ?_) (fun h => absurd h (by decide))
          refine a_iconst (v := 1) eX8_sum_56 (by decide) ?_
          exact a_iret eX8_sum_57 rfl rfl hv
        · replace hv := hv.1 w6
          refine a_iconst (v := 1) eX8_isSign_16 (by decide) ?_
          refine a_goto (tgt := 21) eX8_isSign_17 (by decide) ?_
          refine a_iret eX8_isSign_21 rfl rfl (ret_i ?_)
          refine a_if_eq (tgt := 56) eX8_sum_25 (by decide) (fun h => absurd h (by decide)) (fun _ => ?_)
          refine a_aload_n eX8_sum_28 rfl ?_
          refine gX8_20 eX8_sum_29 fl_X8_257 ?_
          refine a_istore_n (vs' := [some (.ref (G.1 100)), some (.int v1), some (.int (M 100 20))]) eX8_sum_32 rfl (Nat.le_of_ble_eq_true rfl) rfl ?_
          refine a_aload_n eX8_sum_33 rfl ?_
          exact qX8_282 rfl eX8_sum_34 (Nat.le_of_ble_eq_true rfl) (tr_V [true, true, true] rfl rfl hv)
    · replace hv := hv.1 w4
      refine a_iconst (v := 1) eX8_isSign_16 (by decide) ?_
      refine a_goto (tgt := 21) eX8_isSign_17 (by decide) ?_
      refine a_iret eX8_isSign_21 rfl rfl (ret_i ?_)
      refine a_if_ne (tgt := 28) eX8_sum_16 (by decide) (fun _ => ?_) (fun h => absurd h (by decide))
      refine a_aload_n eX8_sum_28 rfl ?_
      refine gX8_20 eX8_sum_29 fl_X8_257 ?_
      refine a_istore_n (vs' := [some (.ref (G.1 100)), some (.int v1), some (.int (M 100 20))]) eX8_sum_32 rfl (Nat.le_of_ble_eq_true rfl) rfl ?_
      refine a_aload_n eX8_sum_33 rfl ?_
      exact qX8_282 rfl eX8_sum_34 (Nat.le_of_ble_eq_true rfl) (tr_V [true, true, true] rfl rfl hv)
theorem bX8_sum_37 {l : Launch} {G : GT} {d : Nat} {M : Mem} {R : Option Value → Mem → Prop} {v1 : Int32} {v2 : Int32} (hv : Tr l G (d + 3) mX8_term [.ref (G.1 100), .int v1] M (kI fun q M' => At l G (d + 4) mX8_sum 42 [some (.ref (G.1 100)), some (.int v1), some (.int v2)] [.int q] M' R)) : At l G (d + 4) mX8_sum 37 [some (.ref (G.1 100)), some (.int v1), some (.int v2)] [] M R := by
  refine a_aload_n eX8_sum_37 rfl ?_
  refine a_iload_n eX8_sum_38 rfl ?_
  exact qX8_294 rfl eX8_sum_39 (Nat.le_of_ble_eq_true rfl) (tr_I [true, true, true] rfl rfl hv)
theorem bX8_sum_42 {l : Launch} {G : GT} {d : Nat} {M : Mem} {R : Option Value → Mem → Prop} {v1 : Int32} {v2 : Int32} {r : Int32} (hv : (r = 0 → R (some (.int 0)) M) ∧ (¬ (r = 0) → vp_in ((M 100 24) + (2 * (M 100 23))) 3084 ∧ vp_in ((((um M 101 (ix ((M 100 24) + (2 * (M 100 23)))) 2) 100 24) + (2 * ((um M 101 (ix ((M 100 24) + (2 * (M 100 23)))) 2) 100 23))) + 1) 3084 ∧ ∀ M4 : Mem, M4 = um (um M 101 (ix ((M 100 24) + (2 * (M 100 23)))) 2) 101 (ix ((((um M 101 (ix ((M 100 24) + (2 * (M 100 23)))) 2) 100 24) + (2 * ((um M 101 (ix ((M 100 24) + (2 * (M 100 23)))) 2) 100 23))) + 1)) v2 → At l G (d + 4) mX8_sum 10 [some (.ref (G.1 100)), some (.int v1), none] [] (um M4 100 23 ((M4 100 23) + 1)) R)) : At l G (d + 4) mX8_sum 42 [some (.ref (G.1 100)), some (.int v1), some (.int v2)] [.int r] M R := by
  refine a_if_ne (tgt := 47) eX8_sum_42 (by decide) (fun w1 => ?_) (fun w1 => ?_)
  · replace hv := hv.2 w1
    refine a_aload_n eX8_sum_47 rfl ?_
    refine a_iconst (v := 2) eX8_sum_48 (by decide) ?_
    refine a_iload_n eX8_sum_49 rfl ?_
    refine qX8_285 rfl eX8_sum_50 (Nat.le_of_ble_eq_true rfl) ?_
    refine Tr.of rfl (Nat.le_of_ble_eq_true rfl) (vs := [some (.ref (G.1 100)), some (.int 2), some (.int v2)]) rfl ?_
    refine a_aload_n eX8_step_0 rfl ?_
    refine gX8_0 eX8_step_1 fl_X8_7 ?_
    refine a_aload_n eX8_step_4 rfl ?_
    refine gX8_24 eX8_step_5 fl_X8_270 ?_
    refine a_iconst (v := 2) eX8_step_8 (by decide) ?_
    refine a_aload_n eX8_step_9 rfl ?_
    refine gX8_23 eX8_step_10 fl_X8_273 ?_
    refine a_imul eX8_step_13 ?_
    refine a_iadd eX8_step_14 ?_
    refine a_iload_n eX8_step_15 rfl ?_
    obtain ⟨h2, hv⟩ := hv
    refine a_iast eX8_step_16 sA101 kA101 h2 ?_
    refine a_aload_n eX8_step_17 rfl ?_
    refine gX8_0 eX8_step_18 fl_X8_7 ?_
    refine a_aload_n eX8_step_21 rfl ?_
    refine gX8_24 eX8_step_22 fl_X8_270 ?_
    refine a_iconst (v := 2) eX8_step_25 (by decide) ?_
    refine a_aload_n eX8_step_26 rfl ?_
    refine gX8_23 eX8_step_27 fl_X8_273 ?_
    refine a_imul eX8_step_30 ?_
    refine a_iadd eX8_step_31 ?_
    refine a_iconst (v := 1) eX8_step_32 (by decide) ?_
    refine a_iadd eX8_step_33 ?_
    refine a_iload_n eX8_step_34 rfl ?_
    obtain ⟨h3, hv⟩ := hv
    refine a_iast eX8_step_35 sA101 kA101 h3 ?_
    refine a_nm (fun M4 eM4 => ?_)
    replace hv := hv M4 eM4
    refine a_aload_n eX8_step_36 rfl ?_
    refine a_dup eX8_step_37 rfl ?_
    refine gX8_23 eX8_step_38 fl_X8_273 ?_
    refine a_iconst (v := 1) eX8_step_41 (by decide) ?_
    refine a_iadd eX8_step_42 ?_
    refine pX8_23 eX8_step_43 fl_X8_273 ?_
    refine a_vret eX8_step_46 rfl (ret_v ?_)
    refine a_goto (tgt := 10) eX8_sum_53 (by decide) ?_
    exact a_weak [true, true, false] rfl rfl hv
  · replace hv := hv.1 w1
    refine a_iconst (v := 0) eX8_sum_45 (by decide) ?_
    exact a_iret eX8_sum_46 rfl rfl hv
theorem tX8_term {l : Launch} {G : GT} {d : Nat} {M : Mem} {R : Option Value → Mem → Prop} {v1 : Int32} (hv : Tr l G (d + 3) mX8_part0 [.ref (G.1 100), .int v1] M (kI fun q M' => At l G (d + 4) mX8_term 5 [some (.ref (G.1 100)), some (.int v1), none] [.int q] M' R)) : Tr l G (d + 4) mX8_term [.ref (G.1 100), .int v1] M R := by
  refine Tr.of rfl (Nat.le_of_ble_eq_true rfl) (vs := [some (.ref (G.1 100)), some (.int v1), none]) rfl ?_
  refine a_aload_n eX8_term_0 rfl ?_
  refine a_iload_n eX8_term_1 rfl ?_
  exact qX8_297 rfl eX8_term_2 (Nat.le_of_ble_eq_true rfl) (tr_I [true, true, false] rfl rfl hv)
theorem bX8_term_5 {l : Launch} {G : GT} {d : Nat} {M : Mem} {R : Option Value → Mem → Prop} {v1 : Int32} {r : Int32} (hv : (r = 0 → R (some (.int 0)) M) ∧ (¬ (r = 0) → At l G (d + 4) mX8_term 10 [some (.ref (G.1 100)), some (.int v1), none] [] M R)) : At l G (d + 4) mX8_term 5 [some (.ref (G.1 100)), some (.int v1), none] [.int r] M R := by
  refine a_if_ne (tgt := 10) eX8_term_5 (by decide) (fun w1 => ?_) (fun w1 => ?_)
  · replace hv := hv.2 w1
    exact a_weak [true, true, false] rfl rfl hv
  · replace hv := hv.1 w1
    refine a_iconst (v := 0) eX8_term_8 (by decide) ?_
    exact a_iret eX8_term_9 rfl rfl hv
theorem bX8_term_10 {l : Launch} {G : GT} {d : Nat} {M : Mem} {R : Option Value → Mem → Prop} {v1 : Int32} (hv : ((M 100 18) = 3 → ((M 100 20) = 42 → Tr l G (d + 3) mX8_nextToken [.ref (G.1 100)] M (kV fun M' => At l G (d + 4) mX8_term 37 [some (.ref (G.1 100)), some (.int v1), some (.int (M 100 20))] [] M' R)) ∧ (¬ ((M 100 20) = 42) → ((M 100 18) = 3 → ((M 100 20) = 47 → Tr l G (d + 3) mX8_nextToken [.ref (G.1 100)] M (kV fun M' => At l G (d + 4) mX8_term 37 [some (.ref (G.1 100)), some (.int v1), some (.int (M 100 20))] [] M' R)) ∧ (¬ ((M 100 20) = 47) → R (some (.int 1)) M)) ∧ (¬ ((M 100 18) = 3) → R (some (.int 1)) M))) ∧ (¬ ((M 100 18) = 3) → ((M 100 18) = 3 → ((M 100 20) = 47 → Tr l G (d + 3) mX8_nextToken [.ref (G.1 100)] M (kV fun M' => At l G (d + 4) mX8_term 37 [some (.ref (G.1 100)), some (.int v1), some (.int (M 100 20))] [] M' R)) ∧ (¬ ((M 100 20) = 47) → R (some (.int 1)) M)) ∧ (¬ ((M 100 18) = 3) → R (some (.int 1)) M))) : At l G (d + 4) mX8_term 10 [some (.ref (G.1 100)), some (.int v1), none] [] M R := by
  refine a_aload_n eX8_term_10 rfl ?_
  refine a_bipush (v := 42) eX8_term_11 (by decide) ?_
  refine qX8_279 rfl eX8_term_13 (Nat.le_of_ble_eq_true rfl) ?_
  refine Tr.of rfl (Nat.le_of_ble_eq_true rfl) (vs := [some (.ref (G.1 100)), some (.int 42)]) rfl ?_
  refine a_aload_n eX8_isSign_0 rfl ?_
  refine gX8_18 eX8_isSign_1 fl_X8_248 ?_
  refine a_iconst (v := 3) eX8_isSign_4 (by decide) ?_
  refine a_icmp_ne (tgt := 20) eX8_isSign_5 (by decide) (fun w1 => ?_) (fun w1 => ?_)
  · replace hv := hv.2 w1
    refine a_iconst (v := 0) eX8_isSign_20 (by decide) ?_
    refine a_iret eX8_isSign_21 rfl rfl (ret_i ?_)
    refine a_if_ne (tgt := 28) eX8_term_16 (by decide) (fun h => absurd h (by decide)) (fun _ => ?_)
    refine a_aload_n eX8_term_19 rfl ?_
    refine a_bipush (v := 47) eX8_term_20 (by decide) ?_
    refine qX8_279 rfl eX8_term_22 (Nat.le_of_ble_eq_true rfl) ?_
    refine Tr.of rfl (Nat.le_of_ble_eq_true rfl) (vs := [some (.ref (G.1 100)), some (.int 47)]) rfl ?_
    refine a_aload_n eX8_isSign_0 rfl ?_
    refine gX8_18 eX8_isSign_1 fl_X8_248 ?_
    refine a_iconst (v := 3) eX8_isSign_4 (by decide) ?_
    refine a_icmp_ne (tgt := 20) eX8_isSign_5 (by decide) (fun w2 => ?_) (fun w2 => ?_)
    · replace hv := hv.2 w2
      refine a_iconst (v := 0) eX8_isSign_20 (by decide) ?_
      refine a_iret eX8_isSign_21 rfl rfl (ret_i ?_)
      refine a_if_eq (tgt := 56) eX8_term_25 (by decide) (fun _ => ?_) (fun h => absurd h (by decide))
      refine a_iconst (v := 1) eX8_term_56 (by decide) ?_
      exact a_iret eX8_term_57 rfl rfl hv
    · replace hv := hv.1 w2
      refine a_aload_n eX8_isSign_8 rfl ?_
      refine gX8_20 eX8_isSign_9 fl_X8_257 ?_
      refine a_iload_n eX8_isSign_12 rfl ?_
      refine a_icmp_ne (tgt := 20) eX8_isSign_13 (by decide) (fun w3 => ?_) (fun w3 => ?_)
      · replace hv := hv.2 w3
        refine a_iconst (v := 0) eX8_isSign_20 (by decide) ?_
        refine a_iret eX8_isSign_21 rfl rfl (ret_i ?_)
        refine a_if_eq (tgt := 56) eX8_term_25 (by decide) (fun _ => ?_) (fun h => absurd h (by decide))
        refine a_iconst (v := 1) eX8_term_56 (by decide) ?_
        exact a_iret eX8_term_57 rfl rfl hv
      · replace hv := hv.1 w3
        refine a_iconst (v := 1) eX8_isSign_16 (by decide) ?_
        refine a_goto (tgt := 21) eX8_isSign_17 (by decide) ?_
        refine a_iret eX8_isSign_21 rfl rfl (ret_i ?_)
        refine a_if_eq (tgt := 56) eX8_term_25 (by decide) (fun h => absurd h (by decide)) (fun _ => ?_)
        refine a_aload_n eX8_term_28 rfl ?_
        refine gX8_20 eX8_term_29 fl_X8_257 ?_
        refine a_istore_n (vs' := [some (.ref (G.1 100)), some (.int v1), some (.int (M 100 20))]) eX8_term_32 rfl (Nat.le_of_ble_eq_true rfl) rfl ?_
        refine a_aload_n eX8_term_33 rfl ?_
        exact qX8_282 rfl eX8_term_34 (Nat.le_of_ble_eq_true rfl) (tr_V [true, true, true] rfl rfl hv)
  · replace hv := hv.1 w1
    refine a_aload_n eX8_isSign_8 rfl ?_
    refine gX8_20 eX8_isSign_9 fl_X8_257 ?_
    refine a_iload_n eX8_isSign_12 rfl ?_
    refine a_icmp_ne (tgt := 20) eX8_isSign_13 (by decide) (fun w4 => ?_) (fun w4 => ?_)
    · replace hv := hv.2 w4
      refine a_iconst (v := 0) eX8_isSign_20 (by decide) ?_
      refine a_iret eX8_isSign_21 rfl rfl (ret_i ?_)
      refine a_if_ne (tgt := 28) eX8_term_16 (by decide) (fun h => absurd h (by decide)) (fun _ => ?_)
      refine a_aload_n eX8_term_19 rfl ?_
      refine a_bipush (v := 47) eX8_term_20 (by decide) ?_
      refine qX8_279 rfl eX8_term_22 (Nat.le_of_ble_eq_true rfl) ?_
      refine Tr.of rfl (Nat.le_of_ble_eq_true rfl) (vs := [some (.ref (G.1 100)), some (.int 47)]) rfl ?_
      refine a_aload_n eX8_isSign_0 rfl ?_
      refine gX8_18 eX8_isSign_1 fl_X8_248 ?_
      refine a_iconst (v := 3) eX8_isSign_4 (by decide) ?_
      refine a_icmp_ne (tgt := 20) eX8_isSign_5 (by decide) (fun w5 => ?_) (fun w5 => ?_)
      · replace hv := hv.2 w5
        refine a_iconst (v := 0) eX8_isSign_20 (by decide) ?_
        refine a_iret eX8_isSign_21 rfl rfl (ret_i ?_)
        refine a_if_eq (tgt := 56) eX8_term_25 (by decide) (fun _ => ?_) (fun h => absurd h (by decide))
        refine a_iconst (v := 1) eX8_term_56 (by decide) ?_
        exact a_iret eX8_term_57 rfl rfl hv
      · replace hv := hv.1 w5
        refine a_aload_n eX8_isSign_8 rfl ?_
        refine gX8_20 eX8_isSign_9 fl_X8_257 ?_
        refine a_iload_n eX8_isSign_12 rfl ?_
        refine a_icmp_ne (tgt := 20) eX8_isSign_13 (by decide) (fun w6 => ?_) (fun w6 => ?_)
        · replace hv := hv.2 w6
          refine a_iconst (v := 0) eX8_isSign_20 (by decide) ?_
          refine a_iret eX8_isSign_21 rfl rfl (ret_i ?_)
          refine a_if_eq (tgt := 56) eX8_term_25 (by decide) (fun _ => ?_) (fun h => absurd h (by decide))
          refine a_iconst (v := 1) eX8_term_56 (by decide) ?_
          exact a_iret eX8_term_57 rfl rfl hv
        · replace hv := hv.1 w6
          refine a_iconst (v := 1) eX8_isSign_16 (by decide) ?_
          refine a_goto (tgt := 21) eX8_isSign_17 (by decide) ?_
          refine a_iret eX8_isSign_21 rfl rfl (ret_i ?_)
          refine a_if_eq (tgt := 56) eX8_term_25 (by decide) (fun h => absurd h (by decide)) (fun _ => ?_)
          refine a_aload_n eX8_term_28 rfl ?_
          refine gX8_20 eX8_term_29 fl_X8_257 ?_
          refine a_istore_n (vs' := [some (.ref (G.1 100)), some (.int v1), some (.int (M 100 20))]) eX8_term_32 rfl (Nat.le_of_ble_eq_true rfl) rfl ?_
          refine a_aload_n eX8_term_33 rfl ?_
          exact qX8_282 rfl eX8_term_34 (Nat.le_of_ble_eq_true rfl) (tr_V [true, true, true] rfl rfl hv)
    · replace hv := hv.1 w4
      refine a_iconst (v := 1) eX8_isSign_16 (by decide) ?_
      refine a_goto (tgt := 21) eX8_isSign_17 (by decide) ?_
      refine a_iret eX8_isSign_21 rfl rfl (ret_i ?_)
      refine a_if_ne (tgt := 28) eX8_term_16 (by decide) (fun _ => ?_) (fun h => absurd h (by decide))
      refine a_aload_n eX8_term_28 rfl ?_
      refine gX8_20 eX8_term_29 fl_X8_257 ?_
      refine a_istore_n (vs' := [some (.ref (G.1 100)), some (.int v1), some (.int (M 100 20))]) eX8_term_32 rfl (Nat.le_of_ble_eq_true rfl) rfl ?_
      refine a_aload_n eX8_term_33 rfl ?_
      exact qX8_282 rfl eX8_term_34 (Nat.le_of_ble_eq_true rfl) (tr_V [true, true, true] rfl rfl hv)
theorem bX8_term_37 {l : Launch} {G : GT} {d : Nat} {M : Mem} {R : Option Value → Mem → Prop} {v1 : Int32} {v2 : Int32} (hv : Tr l G (d + 3) mX8_part0 [.ref (G.1 100), .int v1] M (kI fun q M' => At l G (d + 4) mX8_term 42 [some (.ref (G.1 100)), some (.int v1), some (.int v2)] [.int q] M' R)) : At l G (d + 4) mX8_term 37 [some (.ref (G.1 100)), some (.int v1), some (.int v2)] [] M R := by
  refine a_aload_n eX8_term_37 rfl ?_
  refine a_iload_n eX8_term_38 rfl ?_
  exact qX8_297 rfl eX8_term_39 (Nat.le_of_ble_eq_true rfl) (tr_I [true, true, true] rfl rfl hv)
theorem bX8_term_42 {l : Launch} {G : GT} {d : Nat} {M : Mem} {R : Option Value → Mem → Prop} {v1 : Int32} {v2 : Int32} {r : Int32} (hv : (r = 0 → R (some (.int 0)) M) ∧ (¬ (r = 0) → vp_in ((M 100 24) + (2 * (M 100 23))) 3084 ∧ vp_in ((((um M 101 (ix ((M 100 24) + (2 * (M 100 23)))) 2) 100 24) + (2 * ((um M 101 (ix ((M 100 24) + (2 * (M 100 23)))) 2) 100 23))) + 1) 3084 ∧ ∀ M4 : Mem, M4 = um (um M 101 (ix ((M 100 24) + (2 * (M 100 23)))) 2) 101 (ix ((((um M 101 (ix ((M 100 24) + (2 * (M 100 23)))) 2) 100 24) + (2 * ((um M 101 (ix ((M 100 24) + (2 * (M 100 23)))) 2) 100 23))) + 1)) v2 → At l G (d + 4) mX8_term 10 [some (.ref (G.1 100)), some (.int v1), none] [] (um M4 100 23 ((M4 100 23) + 1)) R)) : At l G (d + 4) mX8_term 42 [some (.ref (G.1 100)), some (.int v1), some (.int v2)] [.int r] M R := by
  refine a_if_ne (tgt := 47) eX8_term_42 (by decide) (fun w1 => ?_) (fun w1 => ?_)
  · replace hv := hv.2 w1
    refine a_aload_n eX8_term_47 rfl ?_
    refine a_iconst (v := 2) eX8_term_48 (by decide) ?_
    refine a_iload_n eX8_term_49 rfl ?_
    refine qX8_285 rfl eX8_term_50 (Nat.le_of_ble_eq_true rfl) ?_
    refine Tr.of rfl (Nat.le_of_ble_eq_true rfl) (vs := [some (.ref (G.1 100)), some (.int 2), some (.int v2)]) rfl ?_
    refine a_aload_n eX8_step_0 rfl ?_
    refine gX8_0 eX8_step_1 fl_X8_7 ?_
    refine a_aload_n eX8_step_4 rfl ?_
    refine gX8_24 eX8_step_5 fl_X8_270 ?_
    refine a_iconst (v := 2) eX8_step_8 (by decide) ?_
    refine a_aload_n eX8_step_9 rfl ?_
    refine gX8_23 eX8_step_10 fl_X8_273 ?_
    refine a_imul eX8_step_13 ?_
    refine a_iadd eX8_step_14 ?_
    refine a_iload_n eX8_step_15 rfl ?_
    obtain ⟨h2, hv⟩ := hv
    refine a_iast eX8_step_16 sA101 kA101 h2 ?_
    refine a_aload_n eX8_step_17 rfl ?_
    refine gX8_0 eX8_step_18 fl_X8_7 ?_
    refine a_aload_n eX8_step_21 rfl ?_
    refine gX8_24 eX8_step_22 fl_X8_270 ?_
    refine a_iconst (v := 2) eX8_step_25 (by decide) ?_
    refine a_aload_n eX8_step_26 rfl ?_
    refine gX8_23 eX8_step_27 fl_X8_273 ?_
    refine a_imul eX8_step_30 ?_
    refine a_iadd eX8_step_31 ?_
    refine a_iconst (v := 1) eX8_step_32 (by decide) ?_
    refine a_iadd eX8_step_33 ?_
    refine a_iload_n eX8_step_34 rfl ?_
    obtain ⟨h3, hv⟩ := hv
    refine a_iast eX8_step_35 sA101 kA101 h3 ?_
    refine a_nm (fun M4 eM4 => ?_)
    replace hv := hv M4 eM4
    refine a_aload_n eX8_step_36 rfl ?_
    refine a_dup eX8_step_37 rfl ?_
    refine gX8_23 eX8_step_38 fl_X8_273 ?_
    refine a_iconst (v := 1) eX8_step_41 (by decide) ?_
    refine a_iadd eX8_step_42 ?_
    refine pX8_23 eX8_step_43 fl_X8_273 ?_
    refine a_vret eX8_step_46 rfl (ret_v ?_)
    refine a_goto (tgt := 10) eX8_term_53 (by decide) ?_
    exact a_weak [true, true, false] rfl rfl hv
  · replace hv := hv.1 w1
    refine a_iconst (v := 0) eX8_term_45 (by decide) ?_
    exact a_iret eX8_term_46 rfl rfl hv
theorem tX8_part0 {l : Launch} {G : GT} {d : Nat} {M : Mem} {R : Option Value → Mem → Prop} {v1 : Int32} (hv : ((M 100 18) = 2 → vp_in ((M 100 24) + (2 * (M 100 23))) 3084 ∧ vp_in ((((um M 101 (ix ((M 100 24) + (2 * (M 100 23)))) 0) 100 24) + (2 * ((um M 101 (ix ((M 100 24) + (2 * (M 100 23)))) 0) 100 23))) + 1) 3084 ∧ ∀ M6 : Mem, M6 = um (um M 101 (ix ((M 100 24) + (2 * (M 100 23)))) 0) 101 (ix ((((um M 101 (ix ((M 100 24) + (2 * (M 100 23)))) 0) 100 24) + (2 * ((um M 101 (ix ((M 100 24) + (2 * (M 100 23)))) 0) 100 23))) + 1)) (M 100 19) → ∀ M7 : Mem, M7 = um (um M6 100 23 ((M6 100 23) + 1)) 100 25 (((um M6 100 23 ((M6 100 23) + 1)) 100 25) + 1) → Tr l G (d + 3) mX8_nextToken [.ref (G.1 100)] M7 (kV fun M' => At l G (d + 4) mX8_part0 31 [none, none] [] M' R)) ∧ (¬ ((M 100 18) = 2) → ((M 100 18) = 1 → ((M 100 20) = 0 → At l G (d + 4) mX8_part0 84 [some (.ref (G.1 100)), some (.int v1)] [] M R) ∧ (¬ ((M 100 20) = 0) → Tr l G (d + 3) mX8_isName [.int v1, .int (M 100 20)] M (kI fun q M' => At l G (d + 4) mX8_part0 56 [some (.ref (G.1 100)), some (.int v1)] [.int q] M' R))) ∧ (¬ ((M 100 18) = 1) → At l G (d + 4) mX8_part0 84 [some (.ref (G.1 100)), some (.int v1)] [] M R))) : Tr l G (d + 4) mX8_part0 [.ref (G.1 100), .int v1] M R := by
  refine Tr.of rfl (Nat.le_of_ble_eq_true rfl) (vs := [some (.ref (G.1 100)), some (.int v1)]) rfl ?_
  refine a_aload_n eX8_part0_0 rfl ?_
  refine gX8_18 eX8_part0_1 fl_X8_248 ?_
  refine a_iconst (v := 2) eX8_part0_4 (by decide) ?_
  refine a_icmp_ne (tgt := 33) eX8_part0_5 (by decide) (fun w1 => ?_) (fun w1 => ?_)
  · replace hv := hv.2 w1
    refine a_aload_n eX8_part0_33 rfl ?_
    refine gX8_18 eX8_part0_34 fl_X8_248 ?_
    refine a_iconst (v := 1) eX8_part0_37 (by decide) ?_
    refine a_icmp_ne (tgt := 84) eX8_part0_38 (by decide) (fun w2 => ?_) (fun w2 => ?_)
    · replace hv := hv.2 w2
      exact a_weak [true, true] rfl rfl hv
    · replace hv := hv.1 w2
      refine a_aload_n eX8_part0_41 rfl ?_
      refine gX8_20 eX8_part0_42 fl_X8_257 ?_
      refine a_if_eq (tgt := 84) eX8_part0_45 (by decide) (fun w3 => ?_) (fun w3 => ?_)
      · replace hv := hv.1 w3
        exact a_weak [true, true] rfl rfl hv
      · replace hv := hv.2 w3
        refine a_iload_n eX8_part0_48 rfl ?_
        refine a_aload_n eX8_part0_49 rfl ?_
        refine gX8_20 eX8_part0_50 fl_X8_257 ?_
        exact qX8_303 rfl eX8_part0_53 (Nat.le_of_ble_eq_true rfl) (tr_I [true, true] rfl rfl hv)
  · replace hv := hv.1 w1
    refine a_aload_n eX8_part0_8 rfl ?_
    refine a_iconst (v := 0) eX8_part0_9 (by decide) ?_
    refine a_aload_n eX8_part0_10 rfl ?_
    refine gX8_19 eX8_part0_11 fl_X8_263 ?_
    refine qX8_285 rfl eX8_part0_14 (Nat.le_of_ble_eq_true rfl) ?_
    refine Tr.of rfl (Nat.le_of_ble_eq_true rfl) (vs := [some (.ref (G.1 100)), some (.int 0), some (.int (M 100 19))]) rfl ?_
    refine a_aload_n eX8_step_0 rfl ?_
    refine gX8_0 eX8_step_1 fl_X8_7 ?_
    refine a_aload_n eX8_step_4 rfl ?_
    refine gX8_24 eX8_step_5 fl_X8_270 ?_
    refine a_iconst (v := 2) eX8_step_8 (by decide) ?_
    refine a_aload_n eX8_step_9 rfl ?_
    refine gX8_23 eX8_step_10 fl_X8_273 ?_
    refine a_imul eX8_step_13 ?_
    refine a_iadd eX8_step_14 ?_
    refine a_iload_n eX8_step_15 rfl ?_
    obtain ⟨h4, hv⟩ := hv
    refine a_iast eX8_step_16 sA101 kA101 h4 ?_
    refine a_aload_n eX8_step_17 rfl ?_
    refine gX8_0 eX8_step_18 fl_X8_7 ?_
    refine a_aload_n eX8_step_21 rfl ?_
    refine gX8_24 eX8_step_22 fl_X8_270 ?_
    refine a_iconst (v := 2) eX8_step_25 (by decide) ?_
    refine a_aload_n eX8_step_26 rfl ?_
    refine gX8_23 eX8_step_27 fl_X8_273 ?_
    refine a_imul eX8_step_30 ?_
    refine a_iadd eX8_step_31 ?_
    refine a_iconst (v := 1) eX8_step_32 (by decide) ?_
    refine a_iadd eX8_step_33 ?_
    refine a_iload_n eX8_step_34 rfl ?_
    obtain ⟨h5, hv⟩ := hv
    refine a_iast eX8_step_35 sA101 kA101 h5 ?_
    refine a_nm (fun M6 eM6 => ?_)
    replace hv := hv M6 eM6
    refine a_aload_n eX8_step_36 rfl ?_
    refine a_dup eX8_step_37 rfl ?_
    refine gX8_23 eX8_step_38 fl_X8_273 ?_
    refine a_iconst (v := 1) eX8_step_41 (by decide) ?_
    refine a_iadd eX8_step_42 ?_
    refine pX8_23 eX8_step_43 fl_X8_273 ?_
    refine a_vret eX8_step_46 rfl (ret_v ?_)
    refine a_aload_n eX8_part0_17 rfl ?_
    refine a_dup eX8_part0_18 rfl ?_
    refine gX8_25 eX8_part0_19 fl_X8_300 ?_
    refine a_iconst (v := 1) eX8_part0_22 (by decide) ?_
    refine a_iadd eX8_part0_23 ?_
    refine pX8_25 eX8_part0_24 fl_X8_300 ?_
    refine a_nm (fun M7 eM7 => ?_)
    replace hv := hv M7 eM7
    refine a_aload_n eX8_part0_27 rfl ?_
    exact qX8_282 rfl eX8_part0_28 (Nat.le_of_ble_eq_true rfl) (tr_V [false, false] rfl rfl hv)
theorem bX8_part0_31 {l : Launch} {G : GT} {d : Nat} {M : Mem} {R : Option Value → Mem → Prop}  (hv : R (some (.int 1)) M) : At l G (d + 4) mX8_part0 31 [none, none] [] M R := by
  refine a_iconst (v := 1) eX8_part0_31 (by decide) ?_
  exact a_iret eX8_part0_32 rfl rfl hv
theorem bX8_part0_56 {l : Launch} {G : GT} {d : Nat} {M : Mem} {R : Option Value → Mem → Prop} {v1 : Int32} {r : Int32} (hv : (r = 0 → At l G (d + 4) mX8_part0 84 [some (.ref (G.1 100)), some (.int v1)] [] M R) ∧ (¬ (r = 0) → vp_in ((M 100 24) + (2 * (M 100 23))) 3084 ∧ vp_in ((((um M 101 (ix ((M 100 24) + (2 * (M 100 23)))) 1) 100 24) + (2 * ((um M 101 (ix ((M 100 24) + (2 * (M 100 23)))) 1) 100 23))) + 1) 3084 ∧ ∀ M4 : Mem, M4 = um (um M 101 (ix ((M 100 24) + (2 * (M 100 23)))) 1) 101 (ix ((((um M 101 (ix ((M 100 24) + (2 * (M 100 23)))) 1) 100 24) + (2 * ((um M 101 (ix ((M 100 24) + (2 * (M 100 23)))) 1) 100 23))) + 1)) (M 100 20) → ∀ M5 : Mem, M5 = um (um M4 100 23 ((M4 100 23) + 1)) 100 25 (((um M4 100 23 ((M4 100 23) + 1)) 100 25) + 1) → Tr l G (d + 3) mX8_nextToken [.ref (G.1 100)] M5 (kV fun M' => At l G (d + 4) mX8_part0 82 [none, none] [] M' R))) : At l G (d + 4) mX8_part0 56 [some (.ref (G.1 100)), some (.int v1)] [.int r] M R := by
  refine a_if_eq (tgt := 84) eX8_part0_56 (by decide) (fun w1 => ?_) (fun w1 => ?_)
  · replace hv := hv.1 w1
    exact a_weak [true, true] rfl rfl hv
  · replace hv := hv.2 w1
    refine a_aload_n eX8_part0_59 rfl ?_
    refine a_iconst (v := 1) eX8_part0_60 (by decide) ?_
    refine a_aload_n eX8_part0_61 rfl ?_
    refine gX8_20 eX8_part0_62 fl_X8_257 ?_
    refine qX8_285 rfl eX8_part0_65 (Nat.le_of_ble_eq_true rfl) ?_
    refine Tr.of rfl (Nat.le_of_ble_eq_true rfl) (vs := [some (.ref (G.1 100)), some (.int 1), some (.int (M 100 20))]) rfl ?_
    refine a_aload_n eX8_step_0 rfl ?_
    refine gX8_0 eX8_step_1 fl_X8_7 ?_
    refine a_aload_n eX8_step_4 rfl ?_
    refine gX8_24 eX8_step_5 fl_X8_270 ?_
    refine a_iconst (v := 2) eX8_step_8 (by decide) ?_
    refine a_aload_n eX8_step_9 rfl ?_
    refine gX8_23 eX8_step_10 fl_X8_273 ?_
    refine a_imul eX8_step_13 ?_
    refine a_iadd eX8_step_14 ?_
    refine a_iload_n eX8_step_15 rfl ?_
    obtain ⟨h2, hv⟩ := hv
    refine a_iast eX8_step_16 sA101 kA101 h2 ?_
    refine a_aload_n eX8_step_17 rfl ?_
    refine gX8_0 eX8_step_18 fl_X8_7 ?_
    refine a_aload_n eX8_step_21 rfl ?_
    refine gX8_24 eX8_step_22 fl_X8_270 ?_
    refine a_iconst (v := 2) eX8_step_25 (by decide) ?_
    refine a_aload_n eX8_step_26 rfl ?_
    refine gX8_23 eX8_step_27 fl_X8_273 ?_
    refine a_imul eX8_step_30 ?_
    refine a_iadd eX8_step_31 ?_
    refine a_iconst (v := 1) eX8_step_32 (by decide) ?_
    refine a_iadd eX8_step_33 ?_
    refine a_iload_n eX8_step_34 rfl ?_
    obtain ⟨h3, hv⟩ := hv
    refine a_iast eX8_step_35 sA101 kA101 h3 ?_
    refine a_nm (fun M4 eM4 => ?_)
    replace hv := hv M4 eM4
    refine a_aload_n eX8_step_36 rfl ?_
    refine a_dup eX8_step_37 rfl ?_
    refine gX8_23 eX8_step_38 fl_X8_273 ?_
    refine a_iconst (v := 1) eX8_step_41 (by decide) ?_
    refine a_iadd eX8_step_42 ?_
    refine pX8_23 eX8_step_43 fl_X8_273 ?_
    refine a_vret eX8_step_46 rfl (ret_v ?_)
    refine a_aload_n eX8_part0_68 rfl ?_
    refine a_dup eX8_part0_69 rfl ?_
    refine gX8_25 eX8_part0_70 fl_X8_300 ?_
    refine a_iconst (v := 1) eX8_part0_73 (by decide) ?_
    refine a_iadd eX8_part0_74 ?_
    refine pX8_25 eX8_part0_75 fl_X8_300 ?_
    refine a_nm (fun M5 eM5 => ?_)
    replace hv := hv M5 eM5
    refine a_aload_n eX8_part0_78 rfl ?_
    exact qX8_282 rfl eX8_part0_79 (Nat.le_of_ble_eq_true rfl) (tr_V [false, false] rfl rfl hv)
theorem bX8_part0_82 {l : Launch} {G : GT} {d : Nat} {M : Mem} {R : Option Value → Mem → Prop}  (hv : R (some (.int 1)) M) : At l G (d + 4) mX8_part0 82 [none, none] [] M R := by
  refine a_iconst (v := 1) eX8_part0_82 (by decide) ?_
  exact a_iret eX8_part0_83 rfl rfl hv
theorem bX8_part0_84 {l : Launch} {G : GT} {d : Nat} {M : Mem} {R : Option Value → Mem → Prop} {v1 : Int32} (hv : ((M 100 18) = 3 → ((M 100 20) = 33 → (8 ≤ (M 100 22) → At l G (d + 4) mX8_part0 145 [some (.ref (G.1 100)), some (.int v1)] [] M R) ∧ (¬ (8 ≤ (M 100 22)) → Tr l G (d + 3) mX8_nextToken [.ref (G.1 100)] (um M 100 22 ((M 100 22) + 1)) (kV fun M' => At l G (d + 4) mX8_part0 116 [some (.ref (G.1 100)), some (.int v1)] [] M' R))) ∧ (¬ ((M 100 20) = 33) → At l G (d + 4) mX8_part0 145 [some (.ref (G.1 100)), some (.int v1)] [] M R)) ∧ (¬ ((M 100 18) = 3) → At l G (d + 4) mX8_part0 145 [some (.ref (G.1 100)), some (.int v1)] [] M R)) : At l G (d + 4) mX8_part0 84 [some (.ref (G.1 100)), some (.int v1)] [] M R := by
  refine a_aload_n eX8_part0_84 rfl ?_
  refine a_bipush (v := 33) eX8_part0_85 (by decide) ?_
  refine qX8_279 rfl eX8_part0_87 (Nat.le_of_ble_eq_true rfl) ?_
  refine Tr.of rfl (Nat.le_of_ble_eq_true rfl) (vs := [some (.ref (G.1 100)), some (.int 33)]) rfl ?_
  refine a_aload_n eX8_isSign_0 rfl ?_
  refine gX8_18 eX8_isSign_1 fl_X8_248 ?_
  refine a_iconst (v := 3) eX8_isSign_4 (by decide) ?_
  refine a_icmp_ne (tgt := 20) eX8_isSign_5 (by decide) (fun w1 => ?_) (fun w1 => ?_)
  · replace hv := hv.2 w1
    refine a_iconst (v := 0) eX8_isSign_20 (by decide) ?_
    refine a_iret eX8_isSign_21 rfl rfl (ret_i ?_)
    refine a_if_eq (tgt := 145) eX8_part0_90 (by decide) (fun _ => ?_) (fun h => absurd h (by decide))
    exact a_weak [true, true] rfl rfl hv
  · replace hv := hv.1 w1
    refine a_aload_n eX8_isSign_8 rfl ?_
    refine gX8_20 eX8_isSign_9 fl_X8_257 ?_
    refine a_iload_n eX8_isSign_12 rfl ?_
    refine a_icmp_ne (tgt := 20) eX8_isSign_13 (by decide) (fun w2 => ?_) (fun w2 => ?_)
    · replace hv := hv.2 w2
      refine a_iconst (v := 0) eX8_isSign_20 (by decide) ?_
      refine a_iret eX8_isSign_21 rfl rfl (ret_i ?_)
      refine a_if_eq (tgt := 145) eX8_part0_90 (by decide) (fun _ => ?_) (fun h => absurd h (by decide))
      exact a_weak [true, true] rfl rfl hv
    · replace hv := hv.1 w2
      refine a_iconst (v := 1) eX8_isSign_16 (by decide) ?_
      refine a_goto (tgt := 21) eX8_isSign_17 (by decide) ?_
      refine a_iret eX8_isSign_21 rfl rfl (ret_i ?_)
      refine a_if_eq (tgt := 145) eX8_part0_90 (by decide) (fun h => absurd h (by decide)) (fun _ => ?_)
      refine a_aload_n eX8_part0_93 rfl ?_
      refine gX8_22 eX8_part0_94 fl_X8_306 ?_
      refine a_bipush (v := 8) eX8_part0_97 (by decide) ?_
      refine a_icmp_ge (tgt := 145) eX8_part0_99 (by decide) (fun w3 => ?_) (fun w3 => ?_)
      · replace hv := hv.1 w3
        exact a_weak [true, true] rfl rfl hv
      · replace hv := hv.2 w3
        refine a_aload_n eX8_part0_102 rfl ?_
        refine a_dup eX8_part0_103 rfl ?_
        refine gX8_22 eX8_part0_104 fl_X8_306 ?_
        refine a_iconst (v := 1) eX8_part0_107 (by decide) ?_
        refine a_iadd eX8_part0_108 ?_
        refine pX8_22 eX8_part0_109 fl_X8_306 ?_
        refine a_aload_n eX8_part0_112 rfl ?_
        exact qX8_282 rfl eX8_part0_113 (Nat.le_of_ble_eq_true rfl) (tr_V [true, true] rfl rfl hv)
theorem bX8_part0_116 {l : Launch} {G : GT} {d : Nat} {M : Mem} {R : Option Value → Mem → Prop} {v1 : Int32} (hv : Tr l G (d + 3) mX8_part0 [.ref (G.1 100), .int v1] M (kI fun q M' => At l G (d + 4) mX8_part0 121 [some (.ref (G.1 100)), none] [.int q] M' R)) : At l G (d + 4) mX8_part0 116 [some (.ref (G.1 100)), some (.int v1)] [] M R := by
  refine a_aload_n eX8_part0_116 rfl ?_
  refine a_iload_n eX8_part0_117 rfl ?_
  exact qX8_297 rfl eX8_part0_118 (Nat.le_of_ble_eq_true rfl) (tr_I [true, false] rfl rfl hv)
theorem bX8_part0_121 {l : Launch} {G : GT} {d : Nat} {M : Mem} {R : Option Value → Mem → Prop} {r : Int32} (hv : (r = 0 → R (some (.int 0)) M) ∧ (¬ (r = 0) → vp_in (((um M 100 22 ((M 100 22) - 1)) 100 24) + (2 * ((um M 100 22 ((M 100 22) - 1)) 100 23))) 3084 ∧ ∀ M3 : Mem, M3 = um (um M 100 22 ((M 100 22) - 1)) 101 (ix (((um M 100 22 ((M 100 22) - 1)) 100 24) + (2 * ((um M 100 22 ((M 100 22) - 1)) 100 23)))) 2 → vp_in (((M3 100 24) + (2 * (M3 100 23))) + 1) 3084 ∧ ∀ M5 : Mem, M5 = um (um M3 101 (ix (((M3 100 24) + (2 * (M3 100 23))) + 1)) 33) 100 23 (((um M3 101 (ix (((M3 100 24) + (2 * (M3 100 23))) + 1)) 33) 100 23) + 1) → R (some (.int 1)) M5)) : At l G (d + 4) mX8_part0 121 [some (.ref (G.1 100)), none] [.int r] M R := by
  refine a_if_ne (tgt := 126) eX8_part0_121 (by decide) (fun w1 => ?_) (fun w1 => ?_)
  · replace hv := hv.2 w1
    refine a_aload_n eX8_part0_126 rfl ?_
    refine a_dup eX8_part0_127 rfl ?_
    refine gX8_22 eX8_part0_128 fl_X8_306 ?_
    refine a_iconst (v := 1) eX8_part0_131 (by decide) ?_
    refine a_isub eX8_part0_132 ?_
    refine pX8_22 eX8_part0_133 fl_X8_306 ?_
    refine a_aload_n eX8_part0_136 rfl ?_
    refine a_iconst (v := 2) eX8_part0_137 (by decide) ?_
    refine a_bipush (v := 33) eX8_part0_138 (by decide) ?_
    refine qX8_285 rfl eX8_part0_140 (Nat.le_of_ble_eq_true rfl) ?_
    refine Tr.of rfl (Nat.le_of_ble_eq_true rfl) (vs := [some (.ref (G.1 100)), some (.int 2), some (.int 33)]) rfl ?_
    refine a_aload_n eX8_step_0 rfl ?_
    refine gX8_0 eX8_step_1 fl_X8_7 ?_
    refine a_aload_n eX8_step_4 rfl ?_
    refine gX8_24 eX8_step_5 fl_X8_270 ?_
    refine a_iconst (v := 2) eX8_step_8 (by decide) ?_
    refine a_aload_n eX8_step_9 rfl ?_
    refine gX8_23 eX8_step_10 fl_X8_273 ?_
    refine a_imul eX8_step_13 ?_
    refine a_iadd eX8_step_14 ?_
    refine a_iload_n eX8_step_15 rfl ?_
    obtain ⟨h2, hv⟩ := hv
    refine a_iast eX8_step_16 sA101 kA101 h2 ?_
    refine a_nm (fun M3 eM3 => ?_)
    replace hv := hv M3 eM3
    refine a_aload_n eX8_step_17 rfl ?_
    refine gX8_0 eX8_step_18 fl_X8_7 ?_
    refine a_aload_n eX8_step_21 rfl ?_
    refine gX8_24 eX8_step_22 fl_X8_270 ?_
    refine a_iconst (v := 2) eX8_step_25 (by decide) ?_
    refine a_aload_n eX8_step_26 rfl ?_
    refine gX8_23 eX8_step_27 fl_X8_273 ?_
    refine a_imul eX8_step_30 ?_
    refine a_iadd eX8_step_31 ?_
    refine a_iconst (v := 1) eX8_step_32 (by decide) ?_
    refine a_iadd eX8_step_33 ?_
    refine a_iload_n eX8_step_34 rfl ?_
    obtain ⟨h4, hv⟩ := hv
    refine a_iast eX8_step_35 sA101 kA101 h4 ?_
    refine a_aload_n eX8_step_36 rfl ?_
    refine a_dup eX8_step_37 rfl ?_
    refine gX8_23 eX8_step_38 fl_X8_273 ?_
    refine a_iconst (v := 1) eX8_step_41 (by decide) ?_
    refine a_iadd eX8_step_42 ?_
    refine pX8_23 eX8_step_43 fl_X8_273 ?_
    refine a_nm (fun M5 eM5 => ?_)
    replace hv := hv M5 eM5
    refine a_vret eX8_step_46 rfl (ret_v ?_)
    refine a_iconst (v := 1) eX8_part0_143 (by decide) ?_
    exact a_iret eX8_part0_144 rfl rfl hv
  · replace hv := hv.1 w1
    refine a_iconst (v := 0) eX8_part0_124 (by decide) ?_
    exact a_iret eX8_part0_125 rfl rfl hv
theorem bX8_part0_145 {l : Launch} {G : GT} {d : Nat} {M : Mem} {R : Option Value → Mem → Prop} {v1 : Int32} (hv : ((M 100 18) = 3 → ((M 100 20) = 40 → ((M 100 21) = 8 → R (some (.int 0)) M) ∧ (¬ ((M 100 21) = 8) → Tr l G (d + 3) mX8_nextToken [.ref (G.1 100)] (um M 100 21 ((M 100 21) + 1)) (kV fun M' => At l G (d + 4) mX8_part0 179 [some (.ref (G.1 100)), some (.int v1)] [] M' R))) ∧ (¬ ((M 100 20) = 40) → R (some (.int 0)) M)) ∧ (¬ ((M 100 18) = 3) → R (some (.int 0)) M)) : At l G (d + 4) mX8_part0 145 [some (.ref (G.1 100)), some (.int v1)] [] M R := by
  refine a_aload_n eX8_part0_145 rfl ?_
  refine a_bipush (v := 40) eX8_part0_146 (by decide) ?_
  refine qX8_279 rfl eX8_part0_148 (Nat.le_of_ble_eq_true rfl) ?_
  refine Tr.of rfl (Nat.le_of_ble_eq_true rfl) (vs := [some (.ref (G.1 100)), some (.int 40)]) rfl ?_
  refine a_aload_n eX8_isSign_0 rfl ?_
  refine gX8_18 eX8_isSign_1 fl_X8_248 ?_
  refine a_iconst (v := 3) eX8_isSign_4 (by decide) ?_
  refine a_icmp_ne (tgt := 20) eX8_isSign_5 (by decide) (fun w1 => ?_) (fun w1 => ?_)
  · replace hv := hv.2 w1
    refine a_iconst (v := 0) eX8_isSign_20 (by decide) ?_
    refine a_iret eX8_isSign_21 rfl rfl (ret_i ?_)
    refine a_if_eq (tgt := 163) eX8_part0_151 (by decide) (fun _ => ?_) (fun h => absurd h (by decide))
    refine a_iconst (v := 0) eX8_part0_163 (by decide) ?_
    exact a_iret eX8_part0_164 rfl rfl hv
  · replace hv := hv.1 w1
    refine a_aload_n eX8_isSign_8 rfl ?_
    refine gX8_20 eX8_isSign_9 fl_X8_257 ?_
    refine a_iload_n eX8_isSign_12 rfl ?_
    refine a_icmp_ne (tgt := 20) eX8_isSign_13 (by decide) (fun w2 => ?_) (fun w2 => ?_)
    · replace hv := hv.2 w2
      refine a_iconst (v := 0) eX8_isSign_20 (by decide) ?_
      refine a_iret eX8_isSign_21 rfl rfl (ret_i ?_)
      refine a_if_eq (tgt := 163) eX8_part0_151 (by decide) (fun _ => ?_) (fun h => absurd h (by decide))
      refine a_iconst (v := 0) eX8_part0_163 (by decide) ?_
      exact a_iret eX8_part0_164 rfl rfl hv
    · replace hv := hv.1 w2
      refine a_iconst (v := 1) eX8_isSign_16 (by decide) ?_
      refine a_goto (tgt := 21) eX8_isSign_17 (by decide) ?_
      refine a_iret eX8_isSign_21 rfl rfl (ret_i ?_)
      refine a_if_eq (tgt := 163) eX8_part0_151 (by decide) (fun h => absurd h (by decide)) (fun _ => ?_)
      refine a_aload_n eX8_part0_154 rfl ?_
      refine gX8_21 eX8_part0_155 fl_X8_309 ?_
      refine a_bipush (v := 8) eX8_part0_158 (by decide) ?_
      refine a_icmp_ne (tgt := 165) eX8_part0_160 (by decide) (fun w3 => ?_) (fun w3 => ?_)
      · replace hv := hv.2 w3
        refine a_aload_n eX8_part0_165 rfl ?_
        refine a_dup eX8_part0_166 rfl ?_
        refine gX8_21 eX8_part0_167 fl_X8_309 ?_
        refine a_iconst (v := 1) eX8_part0_170 (by decide) ?_
        refine a_iadd eX8_part0_171 ?_
        refine pX8_21 eX8_part0_172 fl_X8_309 ?_
        refine a_aload_n eX8_part0_175 rfl ?_
        exact qX8_282 rfl eX8_part0_176 (Nat.le_of_ble_eq_true rfl) (tr_V [true, true] rfl rfl hv)
      · replace hv := hv.1 w3
        refine a_iconst (v := 0) eX8_part0_163 (by decide) ?_
        exact a_iret eX8_part0_164 rfl rfl hv
theorem bX8_part0_179 {l : Launch} {G : GT} {d : Nat} {M : Mem} {R : Option Value → Mem → Prop} {v1 : Int32} (hv : Tr l G (d + 3) mX8_either [.ref (G.1 100), .int v1] M (kI fun q M' => At l G (d + 4) mX8_part0 184 [some (.ref (G.1 100)), none] [.int q] M' R)) : At l G (d + 4) mX8_part0 179 [some (.ref (G.1 100)), some (.int v1)] [] M R := by
  refine a_aload_n eX8_part0_179 rfl ?_
  refine a_iload_n eX8_part0_180 rfl ?_
  exact qX8_312 rfl eX8_part0_181 (Nat.le_of_ble_eq_true rfl) (tr_I [true, false] rfl rfl hv)
theorem bX8_part0_184 {l : Launch} {G : GT} {d : Nat} {M : Mem} {R : Option Value → Mem → Prop} {r : Int32} (hv : (r = 0 → R (some (.int 0)) M) ∧ (¬ (r = 0) → ((M 100 18) = 3 → ((M 100 20) = 41 → Tr l G (d + 3) mX8_nextToken [.ref (G.1 100)] (um M 100 21 ((M 100 21) - 1)) (kV fun M' => At l G (d + 4) mX8_part0 212 [none, none] [] M' R)) ∧ (¬ ((M 100 20) = 41) → R (some (.int 0)) M)) ∧ (¬ ((M 100 18) = 3) → R (some (.int 0)) M))) : At l G (d + 4) mX8_part0 184 [some (.ref (G.1 100)), none] [.int r] M R := by
  refine a_if_eq (tgt := 196) eX8_part0_184 (by decide) (fun w1 => ?_) (fun w1 => ?_)
  · replace hv := hv.1 w1
    refine a_iconst (v := 0) eX8_part0_196 (by decide) ?_
    exact a_iret eX8_part0_197 rfl rfl hv
  · replace hv := hv.2 w1
    refine a_aload_n eX8_part0_187 rfl ?_
    refine a_bipush (v := 41) eX8_part0_188 (by decide) ?_
    refine qX8_279 rfl eX8_part0_190 (Nat.le_of_ble_eq_true rfl) ?_
    refine Tr.of rfl (Nat.le_of_ble_eq_true rfl) (vs := [some (.ref (G.1 100)), some (.int 41)]) rfl ?_
    refine a_aload_n eX8_isSign_0 rfl ?_
    refine gX8_18 eX8_isSign_1 fl_X8_248 ?_
    refine a_iconst (v := 3) eX8_isSign_4 (by decide) ?_
    refine a_icmp_ne (tgt := 20) eX8_isSign_5 (by decide) (fun w2 => ?_) (fun w2 => ?_)
    · replace hv := hv.2 w2
      refine a_iconst (v := 0) eX8_isSign_20 (by decide) ?_
      refine a_iret eX8_isSign_21 rfl rfl (ret_i ?_)
      refine a_if_ne (tgt := 198) eX8_part0_193 (by decide) (fun h => absurd h (by decide)) (fun _ => ?_)
      refine a_iconst (v := 0) eX8_part0_196 (by decide) ?_
      exact a_iret eX8_part0_197 rfl rfl hv
    · replace hv := hv.1 w2
      refine a_aload_n eX8_isSign_8 rfl ?_
      refine gX8_20 eX8_isSign_9 fl_X8_257 ?_
      refine a_iload_n eX8_isSign_12 rfl ?_
      refine a_icmp_ne (tgt := 20) eX8_isSign_13 (by decide) (fun w3 => ?_) (fun w3 => ?_)
      · replace hv := hv.2 w3
        refine a_iconst (v := 0) eX8_isSign_20 (by decide) ?_
        refine a_iret eX8_isSign_21 rfl rfl (ret_i ?_)
        refine a_if_ne (tgt := 198) eX8_part0_193 (by decide) (fun h => absurd h (by decide)) (fun _ => ?_)
        refine a_iconst (v := 0) eX8_part0_196 (by decide) ?_
        exact a_iret eX8_part0_197 rfl rfl hv
      · replace hv := hv.1 w3
        refine a_iconst (v := 1) eX8_isSign_16 (by decide) ?_
        refine a_goto (tgt := 21) eX8_isSign_17 (by decide) ?_
        refine a_iret eX8_isSign_21 rfl rfl (ret_i ?_)
        refine a_if_ne (tgt := 198) eX8_part0_193 (by decide) (fun _ => ?_) (fun h => absurd h (by decide))
        refine a_aload_n eX8_part0_198 rfl ?_
        refine a_dup eX8_part0_199 rfl ?_
        refine gX8_21 eX8_part0_200 fl_X8_309 ?_
        refine a_iconst (v := 1) eX8_part0_203 (by decide) ?_
        refine a_isub eX8_part0_204 ?_
        refine pX8_21 eX8_part0_205 fl_X8_309 ?_
        refine a_aload_n eX8_part0_208 rfl ?_
        exact qX8_282 rfl eX8_part0_209 (Nat.le_of_ble_eq_true rfl) (tr_V [false, false] rfl rfl hv)
theorem bX8_part0_212 {l : Launch} {G : GT} {d : Nat} {M : Mem} {R : Option Value → Mem → Prop}  (hv : R (some (.int 1)) M) : At l G (d + 4) mX8_part0 212 [none, none] [] M R := by
  refine a_iconst (v := 1) eX8_part0_212 (by decide) ?_
  exact a_iret eX8_part0_213 rfl rfl hv
theorem tX8_parse {l : Launch} {G : GT} {d : Nat} {M : Mem} {R : Option Value → Mem → Prop}  (hv : ∀ M1 : Mem, M1 = um (um (um (um (um M 100 17 0) 100 18 3) 100 21 0) 100 22 0) 100 23 0 → (14 ≤ ((um M1 100 25 0) 101 1) → Tr l G (d + 3) mX8_nextToken [.ref (G.1 100)] (um (um M1 100 25 0) 100 24 2884) (kV fun M' => At l G (d + 4) mX8_parse 67 [some (.ref (G.1 100)), none, none] [] M' R)) ∧ (¬ (14 ≤ ((um M1 100 25 0) 101 1)) → ∀ M3 : Mem, M3 = um (um M1 100 25 0) 100 24 ((84 + (200 * ((um M1 100 25 0) 101 1))) + 4) → Tr l G (d + 3) mX8_nextToken [.ref (G.1 100)] M3 (kV fun M' => At l G (d + 4) mX8_parse 67 [some (.ref (G.1 100)), none, none] [] M' R))) : Tr l G (d + 4) mX8_parse [.ref (G.1 100)] M R := by
  refine Tr.of rfl (Nat.le_of_ble_eq_true rfl) (vs := [some (.ref (G.1 100)), none, none]) rfl ?_
  refine a_aload_n eX8_parse_0 rfl ?_
  refine a_iconst (v := 0) eX8_parse_1 (by decide) ?_
  refine pX8_17 eX8_parse_2 fl_X8_245 ?_
  refine a_aload_n eX8_parse_5 rfl ?_
  refine a_iconst (v := 3) eX8_parse_6 (by decide) ?_
  refine pX8_18 eX8_parse_7 fl_X8_248 ?_
  refine a_aload_n eX8_parse_10 rfl ?_
  refine a_iconst (v := 0) eX8_parse_11 (by decide) ?_
  refine pX8_21 eX8_parse_12 fl_X8_309 ?_
  refine a_aload_n eX8_parse_15 rfl ?_
  refine a_iconst (v := 0) eX8_parse_16 (by decide) ?_
  refine pX8_22 eX8_parse_17 fl_X8_306 ?_
  refine a_aload_n eX8_parse_20 rfl ?_
  refine a_iconst (v := 0) eX8_parse_21 (by decide) ?_
  refine pX8_23 eX8_parse_22 fl_X8_273 ?_
  refine a_nm (fun M1 eM1 => ?_)
  replace hv := hv M1 eM1
  refine a_aload_n eX8_parse_25 rfl ?_
  refine a_iconst (v := 0) eX8_parse_26 (by decide) ?_
  refine pX8_25 eX8_parse_27 fl_X8_300 ?_
  refine a_aload_n eX8_parse_30 rfl ?_
  refine a_aload_n eX8_parse_31 rfl ?_
  refine gX8_0 eX8_parse_32 fl_X8_7 ?_
  refine a_iconst (v := 1) eX8_parse_35 (by decide) ?_
  refine a_ialdc 1 eX8_parse_36 sA101 kA101 (by decide) (by decide) ?_
  refine a_bipush (v := 14) eX8_parse_37 (by decide) ?_
  refine a_icmp_ge (tgt := 57) eX8_parse_39 (by decide) (fun w2 => ?_) (fun w2 => ?_)
  · replace hv := hv.1 w2
    refine a_sipush (v := 2884) eX8_parse_57 (by decide) ?_
    refine pX8_24 eX8_parse_60 fl_X8_270 ?_
    refine a_aload_n eX8_parse_63 rfl ?_
    exact qX8_282 rfl eX8_parse_64 (Nat.le_of_ble_eq_true rfl) (tr_V [true, false, false] rfl rfl hv)
  · replace hv := hv.2 w2
    refine a_aload_n eX8_parse_42 rfl ?_
    refine a_aload_n eX8_parse_43 rfl ?_
    refine gX8_0 eX8_parse_44 fl_X8_7 ?_
    refine a_iconst (v := 1) eX8_parse_47 (by decide) ?_
    refine a_ialdc 1 eX8_parse_48 sA101 kA101 (by decide) (by decide) ?_
    refine qX8_315 rfl eX8_parse_49 (Nat.le_of_ble_eq_true rfl) ?_
    refine Tr.of rfl (Nat.le_of_ble_eq_true rfl) (vs := [some (.ref (G.1 100)), some (.int ((um M1 100 25 0) 101 1))]) rfl ?_
    refine a_bipush (v := 84) eX8_textAt_0 (by decide) ?_
    refine a_sipush (v := 200) eX8_textAt_2 (by decide) ?_
    refine a_iload_n eX8_textAt_5 rfl ?_
    refine a_imul eX8_textAt_6 ?_
    refine a_iadd eX8_textAt_7 ?_
    refine a_iret eX8_textAt_8 rfl rfl (ret_i ?_)
    refine a_iconst (v := 4) eX8_parse_52 (by decide) ?_
    refine a_iadd eX8_parse_53 ?_
    refine a_goto (tgt := 60) eX8_parse_54 (by decide) ?_
    refine pX8_24 eX8_parse_60 fl_X8_270 ?_
    refine a_nm (fun M3 eM3 => ?_)
    replace hv := hv M3 eM3
    refine a_aload_n eX8_parse_63 rfl ?_
    exact qX8_282 rfl eX8_parse_64 (Nat.le_of_ble_eq_true rfl) (tr_V [true, false, false] rfl rfl hv)
theorem bX8_parse_67 {l : Launch} {G : GT} {d : Nat} {M : Mem} {R : Option Value → Mem → Prop}  (hv : Tr l G (d + 3) mX8_key [.ref (G.1 100)] M (kI fun q M' => At l G (d + 4) mX8_parse 71 [some (.ref (G.1 100)), none, none] [.int q] M' R)) : At l G (d + 4) mX8_parse 67 [some (.ref (G.1 100)), none, none] [] M R := by
  refine a_aload_n eX8_parse_67 rfl ?_
  exact qX8_318 rfl eX8_parse_68 (Nat.le_of_ble_eq_true rfl) (tr_I [true, false, false] rfl rfl hv)
theorem bX8_parse_71 {l : Launch} {G : GT} {d : Nat} {M : Mem} {R : Option Value → Mem → Prop} {r : Int32} (hv : (r < 0 → R (some (.int (-1))) (um M 100 15 0)) ∧ (¬ (r < 0) → Tr l G (d + 3) mX8_nextToken [.ref (G.1 100)] M (kV fun M' => At l G (d + 4) mX8_parse 90 [some (.ref (G.1 100)), some (.int r), none] [] M' R))) : At l G (d + 4) mX8_parse 71 [some (.ref (G.1 100)), none, none] [.int r] M R := by
  refine a_istore_n (vs' := [some (.ref (G.1 100)), some (.int r), none]) eX8_parse_71 rfl (Nat.le_of_ble_eq_true rfl) rfl ?_
  refine a_iload_n eX8_parse_72 rfl ?_
  refine a_if_lt (tgt := 80) eX8_parse_73 (by decide) (fun w1 => ?_) (fun w1 => ?_)
  · replace hv := hv.1 w1
    refine a_iconst (v := 0) eX8_parse_80 (by decide) ?_
    refine a_istore_n (vs' := [some (.ref (G.1 100)), some (.int r), some (.int 0)]) eX8_parse_81 rfl (Nat.le_of_ble_eq_true rfl) rfl ?_
    refine a_iload_n eX8_parse_82 rfl ?_
    refine a_if_eq (tgt := 111) eX8_parse_83 (by decide) (fun _ => ?_) (fun h => absurd h (by decide))
    refine a_aload_n eX8_parse_111 rfl ?_
    refine a_iconst (v := 0) eX8_parse_112 (by decide) ?_
    refine pX8_15 eX8_parse_113 fl_X8_233 ?_
    refine a_iload_n eX8_parse_116 rfl ?_
    refine a_if_eq (tgt := 124) eX8_parse_117 (by decide) (fun _ => ?_) (fun h => absurd h (by decide))
    refine a_iconst (v := (-1)) eX8_parse_124 (by decide) ?_
    exact a_iret eX8_parse_125 rfl rfl hv
  · replace hv := hv.2 w1
    refine a_iconst (v := 1) eX8_parse_76 (by decide) ?_
    refine a_goto (tgt := 81) eX8_parse_77 (by decide) ?_
    refine a_istore_n (vs' := [some (.ref (G.1 100)), some (.int r), some (.int 1)]) eX8_parse_81 rfl (Nat.le_of_ble_eq_true rfl) rfl ?_
    refine a_iload_n eX8_parse_82 rfl ?_
    refine a_if_eq (tgt := 111) eX8_parse_83 (by decide) (fun h => absurd h (by decide)) (fun _ => ?_)
    refine a_aload_n eX8_parse_86 rfl ?_
    exact qX8_282 rfl eX8_parse_87 (Nat.le_of_ble_eq_true rfl) (tr_V [true, true, false] rfl rfl hv)
theorem bX8_parse_90 {l : Launch} {G : GT} {d : Nat} {M : Mem} {R : Option Value → Mem → Prop} {v1 : Int32} (hv : Tr l G (d + 3) mX8_either [.ref (G.1 100), .int v1] M (kI fun q M' => At l G (d + 4) mX8_parse 95 [some (.ref (G.1 100)), some (.int v1), none] [.int q] M' R)) : At l G (d + 4) mX8_parse 90 [some (.ref (G.1 100)), some (.int v1), none] [] M R := by
  refine a_aload_n eX8_parse_90 rfl ?_
  refine a_iload_n eX8_parse_91 rfl ?_
  exact qX8_312 rfl eX8_parse_92 (Nat.le_of_ble_eq_true rfl) (tr_I [true, true, false] rfl rfl hv)
theorem bX8_parse_95 {l : Launch} {G : GT} {d : Nat} {M : Mem} {R : Option Value → Mem → Prop} {v1 : Int32} {r : Int32} (hv : (r = 0 → R (some (.int (-1))) (um M 100 15 0)) ∧ (¬ (r = 0) → ((M 100 18) = 0 → R (some (.int v1)) (um M 100 15 0)) ∧ (¬ ((M 100 18) = 0) → R (some (.int (-1))) (um M 100 15 0)))) : At l G (d + 4) mX8_parse 95 [some (.ref (G.1 100)), some (.int v1), none] [.int r] M R := by
  refine a_if_eq (tgt := 109) eX8_parse_95 (by decide) (fun w1 => ?_) (fun w1 => ?_)
  · replace hv := hv.1 w1
    refine a_iconst (v := 0) eX8_parse_109 (by decide) ?_
    refine a_istore_n (vs' := [some (.ref (G.1 100)), some (.int v1), some (.int 0)]) eX8_parse_110 rfl (Nat.le_of_ble_eq_true rfl) rfl ?_
    refine a_aload_n eX8_parse_111 rfl ?_
    refine a_iconst (v := 0) eX8_parse_112 (by decide) ?_
    refine pX8_15 eX8_parse_113 fl_X8_233 ?_
    refine a_iload_n eX8_parse_116 rfl ?_
    refine a_if_eq (tgt := 124) eX8_parse_117 (by decide) (fun _ => ?_) (fun h => absurd h (by decide))
    refine a_iconst (v := (-1)) eX8_parse_124 (by decide) ?_
    exact a_iret eX8_parse_125 rfl rfl hv
  · replace hv := hv.2 w1
    refine a_aload_n eX8_parse_98 rfl ?_
    refine gX8_18 eX8_parse_99 fl_X8_248 ?_
    refine a_if_ne (tgt := 109) eX8_parse_102 (by decide) (fun w2 => ?_) (fun w2 => ?_)
    · replace hv := hv.2 w2
      refine a_iconst (v := 0) eX8_parse_109 (by decide) ?_
      refine a_istore_n (vs' := [some (.ref (G.1 100)), some (.int v1), some (.int 0)]) eX8_parse_110 rfl (Nat.le_of_ble_eq_true rfl) rfl ?_
      refine a_aload_n eX8_parse_111 rfl ?_
      refine a_iconst (v := 0) eX8_parse_112 (by decide) ?_
      refine pX8_15 eX8_parse_113 fl_X8_233 ?_
      refine a_iload_n eX8_parse_116 rfl ?_
      refine a_if_eq (tgt := 124) eX8_parse_117 (by decide) (fun _ => ?_) (fun h => absurd h (by decide))
      refine a_iconst (v := (-1)) eX8_parse_124 (by decide) ?_
      exact a_iret eX8_parse_125 rfl rfl hv
    · replace hv := hv.1 w2
      refine a_iconst (v := 1) eX8_parse_105 (by decide) ?_
      refine a_goto (tgt := 110) eX8_parse_106 (by decide) ?_
      refine a_istore_n (vs' := [some (.ref (G.1 100)), some (.int v1), some (.int 1)]) eX8_parse_110 rfl (Nat.le_of_ble_eq_true rfl) rfl ?_
      refine a_aload_n eX8_parse_111 rfl ?_
      refine a_iconst (v := 0) eX8_parse_112 (by decide) ?_
      refine pX8_15 eX8_parse_113 fl_X8_233 ?_
      refine a_iload_n eX8_parse_116 rfl ?_
      refine a_if_eq (tgt := 124) eX8_parse_117 (by decide) (fun h => absurd h (by decide)) (fun _ => ?_)
      refine a_iload_n eX8_parse_120 rfl ?_
      refine a_goto (tgt := 125) eX8_parse_121 (by decide) ?_
      exact a_iret eX8_parse_125 rfl rfl hv
theorem tX8_text {l : Launch} {G : GT} {d : Nat} {M : Mem} {R : Option Value → Mem → Prop}  (hv : Tr l G (d + 3) mX8_parse [.ref (G.1 100)] M (kI fun q M' => At l G (d + 4) mX8_text 4 [some (.ref (G.1 100)), none, none] [.int q] M' R)) : Tr l G (d + 4) mX8_text [.ref (G.1 100)] M R := by
  refine Tr.of rfl (Nat.le_of_ble_eq_true rfl) (vs := [some (.ref (G.1 100)), none, none]) rfl ?_
  refine a_aload_n eX8_text_0 rfl ?_
  exact qX8_321 rfl eX8_text_1 (Nat.le_of_ble_eq_true rfl) (tr_I [true, false, false] rfl rfl hv)
theorem bX8_text_4 {l : Launch} {G : GT} {d : Nat} {M : Mem} {R : Option Value → Mem → Prop} {r : Int32} (hv : (0 ≤ r → ((M 101 1) = 14 → R (some (.int (-1000000003))) M) ∧ (¬ ((M 101 1) = 14) → vp_in ((84 + (200 * (M 101 1))) + 0) 3084 ∧ vp_in ((84 + (200 * (M 101 1))) + 1) 3084 ∧ ∀ M5 : Mem, M5 = um (um M 101 (ix ((84 + (200 * (M 101 1))) + 0)) r) 101 (ix ((84 + (200 * (M 101 1))) + 1)) ((um M 101 (ix ((84 + (200 * (M 101 1))) + 0)) r) 100 25) → vp_in ((84 + (200 * (M 101 1))) + 2) 3084 ∧ ∀ M7 : Mem, M7 = um (um M5 101 (ix ((84 + (200 * (M 101 1))) + 2)) (M5 100 23)) 101 1 (((um M5 101 (ix ((84 + (200 * (M 101 1))) + 2)) (M5 100 23)) 101 1) + 1) → R (some (.int ((M7 101 1) - 1))) M7)) ∧ (¬ (0 ≤ r) → R (some (.int ((-100) - (M 100 16)))) M)) : At l G (d + 4) mX8_text 4 [some (.ref (G.1 100)), none, none] [.int r] M R := by
  refine a_istore_n (vs' := [some (.ref (G.1 100)), some (.int r), none]) eX8_text_4 rfl (Nat.le_of_ble_eq_true rfl) rfl ?_
  refine a_iload_n eX8_text_5 rfl ?_
  refine a_if_ge (tgt := 17) eX8_text_6 (by decide) (fun w1 => ?_) (fun w1 => ?_)
  · replace hv := hv.1 w1
    refine a_aload_n eX8_text_17 rfl ?_
    refine gX8_0 eX8_text_18 fl_X8_7 ?_
    refine a_iconst (v := 1) eX8_text_21 (by decide) ?_
    refine a_ialdc 1 eX8_text_22 sA101 kA101 (by decide) (by decide) ?_
    refine a_bipush (v := 14) eX8_text_23 (by decide) ?_
    refine a_icmp_ne (tgt := 31) eX8_text_25 (by decide) (fun w2 => ?_) (fun w2 => ?_)
    · replace hv := hv.2 w2
      refine a_aload_n eX8_text_31 rfl ?_
      refine a_aload_n eX8_text_32 rfl ?_
      refine gX8_0 eX8_text_33 fl_X8_7 ?_
      refine a_iconst (v := 1) eX8_text_36 (by decide) ?_
      refine a_ialdc 1 eX8_text_37 sA101 kA101 (by decide) (by decide) ?_
      refine qX8_315 rfl eX8_text_38 (Nat.le_of_ble_eq_true rfl) ?_
      refine Tr.of rfl (Nat.le_of_ble_eq_true rfl) (vs := [some (.ref (G.1 100)), some (.int (M 101 1))]) rfl ?_
      refine a_bipush (v := 84) eX8_textAt_0 (by decide) ?_
      refine a_sipush (v := 200) eX8_textAt_2 (by decide) ?_
      refine a_iload_n eX8_textAt_5 rfl ?_
      refine a_imul eX8_textAt_6 ?_
      refine a_iadd eX8_textAt_7 ?_
      refine a_iret eX8_textAt_8 rfl rfl (ret_i ?_)
      refine a_istore_n (vs' := [some (.ref (G.1 100)), some (.int r), some (.int (84 + (200 * (M 101 1))))]) eX8_text_41 rfl (Nat.le_of_ble_eq_true rfl) rfl ?_
      refine a_aload_n eX8_text_42 rfl ?_
      refine gX8_0 eX8_text_43 fl_X8_7 ?_
      refine a_iload_n eX8_text_46 rfl ?_
      refine a_iconst (v := 0) eX8_text_47 (by decide) ?_
      refine a_iadd eX8_text_48 ?_
      refine a_iload_n eX8_text_49 rfl ?_
      obtain ⟨h3, hv⟩ := hv
      refine a_iast eX8_text_50 sA101 kA101 h3 ?_
      refine a_aload_n eX8_text_51 rfl ?_
      refine gX8_0 eX8_text_52 fl_X8_7 ?_
      refine a_iload_n eX8_text_55 rfl ?_
      refine a_iconst (v := 1) eX8_text_56 (by decide) ?_
      refine a_iadd eX8_text_57 ?_
      refine a_aload_n eX8_text_58 rfl ?_
      refine gX8_25 eX8_text_59 fl_X8_300 ?_
      obtain ⟨h4, hv⟩ := hv
      refine a_iast eX8_text_62 sA101 kA101 h4 ?_
      refine a_nm (fun M5 eM5 => ?_)
      replace hv := hv M5 eM5
      refine a_aload_n eX8_text_63 rfl ?_
      refine gX8_0 eX8_text_64 fl_X8_7 ?_
      refine a_iload_n eX8_text_67 rfl ?_
      refine a_iconst (v := 2) eX8_text_68 (by decide) ?_
      refine a_iadd eX8_text_69 ?_
      refine a_aload_n eX8_text_70 rfl ?_
      refine gX8_23 eX8_text_71 fl_X8_273 ?_
      obtain ⟨h6, hv⟩ := hv
      refine a_iast eX8_text_74 sA101 kA101 h6 ?_
      refine a_aload_n eX8_text_75 rfl ?_
      refine gX8_0 eX8_text_76 fl_X8_7 ?_
      refine a_iconst (v := 1) eX8_text_79 (by decide) ?_
      refine a_dup2 eX8_text_80 rfl rfl ?_
      refine a_ialdc 1 eX8_text_81 sA101 kA101 (by decide) (by decide) ?_
      refine a_iconst (v := 1) eX8_text_82 (by decide) ?_
      refine a_iadd eX8_text_83 ?_
      refine a_iastc 1 eX8_text_84 sA101 kA101 (by decide) (by decide) ?_
      refine a_nm (fun M7 eM7 => ?_)
      replace hv := hv M7 eM7
      refine a_aload_n eX8_text_85 rfl ?_
      refine gX8_0 eX8_text_86 fl_X8_7 ?_
      refine a_iconst (v := 1) eX8_text_89 (by decide) ?_
      refine a_ialdc 1 eX8_text_90 sA101 kA101 (by decide) (by decide) ?_
      refine a_iconst (v := 1) eX8_text_91 (by decide) ?_
      refine a_isub eX8_text_92 ?_
      exact a_iret eX8_text_93 rfl rfl hv
    · replace hv := hv.1 w2
      refine a_ldc eX8_text_28 kc_X8_118 ?_
      exact a_iret eX8_text_30 rfl rfl hv
  · replace hv := hv.2 w1
    refine a_bipush (v := (-100)) eX8_text_9 (by decide) ?_
    refine a_aload_n eX8_text_11 rfl ?_
    refine gX8_16 eX8_text_12 fl_X8_251 ?_
    refine a_isub eX8_text_15 ?_
    exact a_iret eX8_text_16 rfl rfl hv
theorem tX8_textTold {l : Launch} {G : GT} {d : Nat} {M : Mem} {R : Option Value → Mem → Prop} {v1 : Int32} {v2 : Int32} (hv : (0 ≤ v1 → (v1 ≤ ((M 101 1) - 1) → (0 ≤ v2 → (v2 ≤ 1 → vp_in ((84 + (200 * v1)) + v2) 3084 ∧ R (some (.int (M 101 (ix ((84 + (200 * v1)) + v2))))) M) ∧ (¬ (v2 ≤ 1) → R (some (.int (-1000000001))) M)) ∧ (¬ (0 ≤ v2) → R (some (.int (-1000000001))) M)) ∧ (¬ (v1 ≤ ((M 101 1) - 1)) → R (some (.int (-1000000001))) M)) ∧ (¬ (0 ≤ v1) → R (some (.int (-1000000001))) M)) : Tr l G (d + 4) mX8_textTold [.ref (G.1 100), .int v1, .int v2] M R := by
  refine Tr.of rfl (Nat.le_of_ble_eq_true rfl) (vs := [some (.ref (G.1 100)), some (.int v1), some (.int v2)]) rfl ?_
  refine a_aload_n eX8_textTold_0 rfl ?_
  refine a_iload_n eX8_textTold_1 rfl ?_
  refine qX8_324 rfl eX8_textTold_2 (Nat.le_of_ble_eq_true rfl) ?_
  refine Tr.of rfl (Nat.le_of_ble_eq_true rfl) (vs := [some (.ref (G.1 100)), some (.int v1)]) rfl ?_
  refine a_iload_n eX8_isText_0 rfl ?_
  refine a_i2l eX8_isText_1 ?_
  refine a_lconsti 0 eX8_isText_2 (by decide) ?_
  refine a_aload_n eX8_isText_3 rfl ?_
  refine gX8_0 eX8_isText_4 fl_X8_7 ?_
  refine a_iconst (v := 1) eX8_isText_7 (by decide) ?_
  refine a_ialdc 1 eX8_isText_8 sA101 kA101 (by decide) (by decide) ?_
  refine a_iconst (v := 1) eX8_isText_9 (by decide) ?_
  refine a_isub eX8_isText_10 ?_
  refine a_i2l eX8_isText_11 ?_
  refine qX8_68 rfl eX8_isText_12 (Nat.le_of_ble_eq_true rfl) ?_
  refine in_isIn (v := v1) (lo := 0) (hi := (M 101 1) - 1) ⟨fun w4 => ⟨fun w5 => ret_i ?_, fun w5 => ret_i ?_⟩, fun w4 => ret_i ?_⟩
  · replace hv := (hv.1 w4).1 w5
    refine a_iret eX8_isText_15 rfl rfl (ret_i ?_)
    refine a_if_eq (tgt := 18) eX8_textTold_5 (by decide) (fun h => absurd h (by decide)) (fun _ => ?_)
    refine a_iload_n eX8_textTold_8 rfl ?_
    refine a_i2l eX8_textTold_9 ?_
    refine a_lconsti 0 eX8_textTold_10 (by decide) ?_
    refine a_lconsti 1 eX8_textTold_11 (by decide) ?_
    refine qX8_68 rfl eX8_textTold_12 (Nat.le_of_ble_eq_true rfl) ?_
    refine in_isIn (v := v2) (lo := 0) (hi := 1) ⟨fun w2 => ⟨fun w3 => ret_i ?_, fun w3 => ret_i ?_⟩, fun w2 => ret_i ?_⟩
    · replace hv := (hv.1 w2).1 w3
      refine a_if_ne (tgt := 21) eX8_textTold_15 (by decide) (fun _ => ?_) (fun h => absurd h (by decide))
      refine a_aload_n eX8_textTold_21 rfl ?_
      refine gX8_0 eX8_textTold_22 fl_X8_7 ?_
      refine a_aload_n eX8_textTold_25 rfl ?_
      refine a_iload_n eX8_textTold_26 rfl ?_
      refine qX8_315 rfl eX8_textTold_27 (Nat.le_of_ble_eq_true rfl) ?_
      refine Tr.of rfl (Nat.le_of_ble_eq_true rfl) (vs := [some (.ref (G.1 100)), some (.int v1)]) rfl ?_
      refine a_bipush (v := 84) eX8_textAt_0 (by decide) ?_
      refine a_sipush (v := 200) eX8_textAt_2 (by decide) ?_
      refine a_iload_n eX8_textAt_5 rfl ?_
      refine a_imul eX8_textAt_6 ?_
      refine a_iadd eX8_textAt_7 ?_
      refine a_iret eX8_textAt_8 rfl rfl (ret_i ?_)
      refine a_iload_n eX8_textTold_30 rfl ?_
      refine a_iadd eX8_textTold_31 ?_
      obtain ⟨h1, hv⟩ := hv
      refine a_iald eX8_textTold_32 sA101 kA101 h1 ?_
      exact a_iret eX8_textTold_33 rfl rfl hv
    · replace hv := (hv.1 w2).2 w3
      refine a_if_ne (tgt := 21) eX8_textTold_15 (by decide) (fun h => absurd h (by decide)) (fun _ => ?_)
      refine a_ldc eX8_textTold_18 kc_X8_117 ?_
      exact a_iret eX8_textTold_20 rfl rfl hv
    · replace hv := hv.2 w2
      refine a_if_ne (tgt := 21) eX8_textTold_15 (by decide) (fun h => absurd h (by decide)) (fun _ => ?_)
      refine a_ldc eX8_textTold_18 kc_X8_117 ?_
      exact a_iret eX8_textTold_20 rfl rfl hv
  · replace hv := (hv.1 w4).2 w5
    refine a_iret eX8_isText_15 rfl rfl (ret_i ?_)
    refine a_if_eq (tgt := 18) eX8_textTold_5 (by decide) (fun _ => ?_) (fun h => absurd h (by decide))
    refine a_ldc eX8_textTold_18 kc_X8_117 ?_
    exact a_iret eX8_textTold_20 rfl rfl hv
  · replace hv := hv.2 w4
    refine a_iret eX8_isText_15 rfl rfl (ret_i ?_)
    refine a_if_eq (tgt := 18) eX8_textTold_5 (by decide) (fun _ => ?_) (fun h => absurd h (by decide))
    refine a_ldc eX8_textTold_18 kc_X8_117 ?_
    exact a_iret eX8_textTold_20 rfl rfl hv
theorem tX8_counts {l : Launch} {G : GT} {d : Nat} {M : Mem} {R : Option Value → Mem → Prop} {v1 : Int32} (hv : At l G (d + 4) mX8_counts 4 [some (.ref (G.1 100)), some (.int v1), some (.int (-1)), some (.int 0)] [] M R) : Tr l G (d + 4) mX8_counts [.ref (G.1 100), .int v1] M R := by
  refine Tr.of rfl (Nat.le_of_ble_eq_true rfl) (vs := [some (.ref (G.1 100)), some (.int v1), none, none]) rfl ?_
  refine a_iconst (v := (-1)) eX8_counts_0 (by decide) ?_
  refine a_istore_n (vs' := [some (.ref (G.1 100)), some (.int v1), some (.int (-1)), none]) eX8_counts_1 rfl (Nat.le_of_ble_eq_true rfl) rfl ?_
  refine a_iconst (v := 0) eX8_counts_2 (by decide) ?_
  refine a_istore_n (vs' := [some (.ref (G.1 100)), some (.int v1), some (.int (-1)), some (.int 0)]) eX8_counts_3 rfl (Nat.le_of_ble_eq_true rfl) rfl ?_
  exact a_weak [true, true, true, true] rfl rfl hv
theorem bX8_counts_4 {l : Launch} {G : GT} {d : Nat} {M : Mem} {R : Option Value → Mem → Prop} {v1 : Int32} {v2 : Int32} {v3 : Int32} (hv : ((M 101 1) ≤ v3 → R (some (.int v2)) M) ∧ (¬ ((M 101 1) ≤ v3) → vp_in (84 + (200 * v3)) 3084 ∧ ((M 101 (ix (84 + (200 * v3)))) = v1 → At l G (d + 4) mX8_counts 4 [some (.ref (G.1 100)), some (.int v1), some (.int v3), some (.int (v3 + 1))] [] M R) ∧ (¬ ((M 101 (ix (84 + (200 * v3)))) = v1) → At l G (d + 4) mX8_counts 4 [some (.ref (G.1 100)), some (.int v1), some (.int v2), some (.int (v3 + 1))] [] M R))) : At l G (d + 4) mX8_counts 4 [some (.ref (G.1 100)), some (.int v1), some (.int v2), some (.int v3)] [] M R := by
  refine a_iload_n eX8_counts_4 rfl ?_
  refine a_aload_n eX8_counts_5 rfl ?_
  refine gX8_0 eX8_counts_6 fl_X8_7 ?_
  refine a_iconst (v := 1) eX8_counts_9 (by decide) ?_
  refine a_ialdc 1 eX8_counts_10 sA101 kA101 (by decide) (by decide) ?_
  refine a_icmp_ge (tgt := 40) eX8_counts_11 (by decide) (fun w1 => ?_) (fun w1 => ?_)
  · replace hv := hv.1 w1
    refine a_iload_n eX8_counts_40 rfl ?_
    exact a_iret eX8_counts_41 rfl rfl hv
  · replace hv := hv.2 w1
    refine a_aload_n eX8_counts_14 rfl ?_
    refine gX8_0 eX8_counts_15 fl_X8_7 ?_
    refine a_aload_n eX8_counts_18 rfl ?_
    refine a_iload_n eX8_counts_19 rfl ?_
    refine qX8_315 rfl eX8_counts_20 (Nat.le_of_ble_eq_true rfl) ?_
    refine Tr.of rfl (Nat.le_of_ble_eq_true rfl) (vs := [some (.ref (G.1 100)), some (.int v3)]) rfl ?_
    refine a_bipush (v := 84) eX8_textAt_0 (by decide) ?_
    refine a_sipush (v := 200) eX8_textAt_2 (by decide) ?_
    refine a_iload_n eX8_textAt_5 rfl ?_
    refine a_imul eX8_textAt_6 ?_
    refine a_iadd eX8_textAt_7 ?_
    refine a_iret eX8_textAt_8 rfl rfl (ret_i ?_)
    obtain ⟨h2, hv⟩ := hv
    refine a_iald eX8_counts_23 sA101 kA101 h2 ?_
    refine a_iload_n eX8_counts_24 rfl ?_
    refine a_icmp_ne (tgt := 32) eX8_counts_25 (by decide) (fun w3 => ?_) (fun w3 => ?_)
    · replace hv := hv.2 w3
      refine a_iload_n eX8_counts_32 rfl ?_
      refine a_istore_n (vs' := [some (.ref (G.1 100)), some (.int v1), some (.int v2), some (.int v3)]) eX8_counts_33 rfl (Nat.le_of_ble_eq_true rfl) rfl ?_
      refine a_iinc (v := 1) (vs' := [some (.ref (G.1 100)), some (.int v1), some (.int v2), some (.int (v3 + 1))]) eX8_counts_34 rfl rfl (by decide) rfl ?_
      refine a_goto (tgt := 4) eX8_counts_37 (by decide) ?_
      exact a_weak [true, true, true, true] rfl rfl hv
    · replace hv := hv.1 w3
      refine a_iload_n eX8_counts_28 rfl ?_
      refine a_goto (tgt := 33) eX8_counts_29 (by decide) ?_
      refine a_istore_n (vs' := [some (.ref (G.1 100)), some (.int v1), some (.int v3), some (.int v3)]) eX8_counts_33 rfl (Nat.le_of_ble_eq_true rfl) rfl ?_
      refine a_iinc (v := 1) (vs' := [some (.ref (G.1 100)), some (.int v1), some (.int v3), some (.int (v3 + 1))]) eX8_counts_34 rfl rfl (by decide) rfl ?_
      refine a_goto (tgt := 4) eX8_counts_37 (by decide) ?_
      exact a_weak [true, true, true, true] rfl rfl hv
theorem tX8_why {l : Launch} {G : GT} {d : Nat} {M : Mem} {R : Option Value → Mem → Prop} {v1 : Int32} (hv : (0 ≤ v1 → (v1 ≤ 2 → Tr l G (d + 3) mX8_counts [.ref (G.1 100), .int v1] M (kI fun q M' => At l G (d + 4) mX8_why 17 [none, none] [.int q] M' R)) ∧ (¬ (v1 ≤ 2) → R (some (.int (-1000000001))) M)) ∧ (¬ (0 ≤ v1) → R (some (.int (-1000000001))) M)) : Tr l G (d + 4) mX8_why [.ref (G.1 100), .int v1] M R := by
  refine Tr.of rfl (Nat.le_of_ble_eq_true rfl) (vs := [some (.ref (G.1 100)), some (.int v1)]) rfl ?_
  refine a_iload_n eX8_why_0 rfl ?_
  refine a_i2l eX8_why_1 ?_
  refine a_lconsti 0 eX8_why_2 (by decide) ?_
  refine a_ldc2i 2 eX8_why_3 kl_X8_144 (by decide) ?_
  refine qX8_68 rfl eX8_why_6 (Nat.le_of_ble_eq_true rfl) ?_
  refine in_isIn (v := v1) (lo := 0) (hi := 2) ⟨fun w1 => ⟨fun w2 => ret_i ?_, fun w2 => ret_i ?_⟩, fun w1 => ret_i ?_⟩
  · replace hv := (hv.1 w1).1 w2
    refine a_if_eq (tgt := 23) eX8_why_9 (by decide) (fun h => absurd h (by decide)) (fun _ => ?_)
    refine a_aload_n eX8_why_12 rfl ?_
    refine a_iload_n eX8_why_13 rfl ?_
    exact qX8_93 rfl eX8_why_14 (Nat.le_of_ble_eq_true rfl) (tr_I [false, false] rfl rfl hv)
  · replace hv := (hv.1 w1).2 w2
    refine a_if_eq (tgt := 23) eX8_why_9 (by decide) (fun _ => ?_) (fun h => absurd h (by decide))
    refine a_ldc eX8_why_23 kc_X8_117 ?_
    exact a_iret eX8_why_25 rfl rfl hv
  · replace hv := hv.2 w1
    refine a_if_eq (tgt := 23) eX8_why_9 (by decide) (fun _ => ?_) (fun h => absurd h (by decide))
    refine a_ldc eX8_why_23 kc_X8_117 ?_
    exact a_iret eX8_why_25 rfl rfl hv
theorem bX8_why_17 {l : Launch} {G : GT} {d : Nat} {M : Mem} {R : Option Value → Mem → Prop} {r : Int32} (hv : (0 ≤ r → R (some (.int r)) M) ∧ (¬ (0 ≤ r) → R (some (.int (-1000000005))) M)) : At l G (d + 4) mX8_why 17 [none, none] [.int r] M R := by
  refine qX8_219 rfl eX8_why_17 (Nat.le_of_ble_eq_true rfl) ?_
  refine Tr.of rfl (Nat.le_of_ble_eq_true rfl) (vs := [some (.int r)]) rfl ?_
  refine a_iload_n eX8_orNone_0 rfl ?_
  refine a_if_ge (tgt := 9) eX8_orNone_1 (by decide) (fun w1 => ?_) (fun w1 => ?_)
  · replace hv := hv.1 w1
    refine a_iload_n eX8_orNone_9 rfl ?_
    refine a_iret eX8_orNone_10 rfl rfl (ret_i ?_)
    refine a_goto (tgt := 25) eX8_why_20 (by decide) ?_
    exact a_iret eX8_why_25 rfl rfl hv
  · replace hv := hv.2 w1
    refine a_ldc eX8_orNone_4 kc_X8_67 ?_
    refine a_goto (tgt := 10) eX8_orNone_6 (by decide) ?_
    refine a_iret eX8_orNone_10 rfl rfl (ret_i ?_)
    refine a_goto (tgt := 25) eX8_why_20 (by decide) ?_
    exact a_iret eX8_why_25 rfl rfl hv
theorem tX8_joined {l : Launch} {G : GT} {d : Nat} {M : Mem} {R : Option Value → Mem → Prop} {v0 : Int32} {v1 : Int32} {v2 : Int32} (hv : (v0 = 38 → (v1 = 0 → R (some (.int 0)) M) ∧ (¬ (v1 = 0) → (v2 = 0 → R (some (.int 0)) M) ∧ (¬ (v2 = 0) → R (some (.int 1)) M))) ∧ (v0 = 39 → (v1 = 0 → (v2 = 0 → R (some (.int 0)) M) ∧ (¬ (v2 = 0) → R (some (.int 1)) M)) ∧ (¬ (v1 = 0) → R (some (.int 1)) M)) ∧ (v0 = 40 → (v1 = 0 → (v2 = 0 → R (some (.int 0)) M) ∧ (¬ (v2 = 0) → R (some (.int 1)) M)) ∧ (¬ (v1 = 0) → R (some (.int 1)) M)) ∧ (v0 = 41 → (v1 = 0 → (v2 = 0 → R (some (.int 0)) M) ∧ (¬ (v2 = 0) → R (some (.int 1)) M)) ∧ (¬ (v1 = 0) → R (some (.int 1)) M)) ∧ (v0 = 42 → R (some (.int (v1 * v2))) M) ∧ (v0 = 43 → R (some (.int (v1 + v2))) M) ∧ (v0 = 44 → (v1 = 0 → (v2 = 0 → R (some (.int 0)) M) ∧ (¬ (v2 = 0) → R (some (.int 1)) M)) ∧ (¬ (v1 = 0) → R (some (.int 1)) M)) ∧ (v0 = 45 → R (some (.int (v1 - v2))) M) ∧ (v0 = 46 → (v1 = 0 → (v2 = 0 → R (some (.int 0)) M) ∧ (¬ (v2 = 0) → R (some (.int 1)) M)) ∧ (¬ (v1 = 0) → R (some (.int 1)) M)) ∧ (v0 = 47 → (v2 = 0 → R (some (.int 0)) M) ∧ (¬ (v2 = 0) → (v2 = (-1) → R (some (.int (-v1))) M) ∧ (¬ (v2 = (-1)) → ¬ v2 = 0 ∧ R (some (.int (v1 / v2))) M))) ∧ (v0 = 48 → (v1 = 0 → (v2 = 0 → R (some (.int 0)) M) ∧ (¬ (v2 = 0) → R (some (.int 1)) M)) ∧ (¬ (v1 = 0) → R (some (.int 1)) M)) ∧ (v0 = 49 → (v1 = 0 → (v2 = 0 → R (some (.int 0)) M) ∧ (¬ (v2 = 0) → R (some (.int 1)) M)) ∧ (¬ (v1 = 0) → R (some (.int 1)) M)) ∧ (v0 = 50 → (v1 = 0 → (v2 = 0 → R (some (.int 0)) M) ∧ (¬ (v2 = 0) → R (some (.int 1)) M)) ∧ (¬ (v1 = 0) → R (some (.int 1)) M)) ∧ (v0 = 51 → (v1 = 0 → (v2 = 0 → R (some (.int 0)) M) ∧ (¬ (v2 = 0) → R (some (.int 1)) M)) ∧ (¬ (v1 = 0) → R (some (.int 1)) M)) ∧ (v0 = 52 → (v1 = 0 → (v2 = 0 → R (some (.int 0)) M) ∧ (¬ (v2 = 0) → R (some (.int 1)) M)) ∧ (¬ (v1 = 0) → R (some (.int 1)) M)) ∧ (v0 = 53 → (v1 = 0 → (v2 = 0 → R (some (.int 0)) M) ∧ (¬ (v2 = 0) → R (some (.int 1)) M)) ∧ (¬ (v1 = 0) → R (some (.int 1)) M)) ∧ (v0 = 54 → (v1 = 0 → (v2 = 0 → R (some (.int 0)) M) ∧ (¬ (v2 = 0) → R (some (.int 1)) M)) ∧ (¬ (v1 = 0) → R (some (.int 1)) M)) ∧ (v0 = 55 → (v1 = 0 → (v2 = 0 → R (some (.int 0)) M) ∧ (¬ (v2 = 0) → R (some (.int 1)) M)) ∧ (¬ (v1 = 0) → R (some (.int 1)) M)) ∧ (v0 = 56 → (v1 = 0 → (v2 = 0 → R (some (.int 0)) M) ∧ (¬ (v2 = 0) → R (some (.int 1)) M)) ∧ (¬ (v1 = 0) → R (some (.int 1)) M)) ∧ (v0 = 57 → (v1 = 0 → (v2 = 0 → R (some (.int 0)) M) ∧ (¬ (v2 = 0) → R (some (.int 1)) M)) ∧ (¬ (v1 = 0) → R (some (.int 1)) M)) ∧ (v0 = 58 → (v1 = 0 → (v2 = 0 → R (some (.int 0)) M) ∧ (¬ (v2 = 0) → R (some (.int 1)) M)) ∧ (¬ (v1 = 0) → R (some (.int 1)) M)) ∧ (v0 = 59 → (v1 = 0 → (v2 = 0 → R (some (.int 0)) M) ∧ (¬ (v2 = 0) → R (some (.int 1)) M)) ∧ (¬ (v1 = 0) → R (some (.int 1)) M)) ∧ (v0 = 60 → (v2 ≤ v1 → R (some (.int 0)) M) ∧ (¬ (v2 ≤ v1) → R (some (.int 1)) M)) ∧ (v0 = 61 → (v1 = v2 → R (some (.int 1)) M) ∧ (¬ (v1 = v2) → R (some (.int 0)) M)) ∧ (v0 = 62 → (v1 ≤ v2 → R (some (.int 0)) M) ∧ (¬ (v1 ≤ v2) → R (some (.int 1)) M)) ∧ (¬ v0 = 38 → ¬ v0 = 39 → ¬ v0 = 40 → ¬ v0 = 41 → ¬ v0 = 42 → ¬ v0 = 43 → ¬ v0 = 44 → ¬ v0 = 45 → ¬ v0 = 46 → ¬ v0 = 47 → ¬ v0 = 48 → ¬ v0 = 49 → ¬ v0 = 50 → ¬ v0 = 51 → ¬ v0 = 52 → ¬ v0 = 53 → ¬ v0 = 54 → ¬ v0 = 55 → ¬ v0 = 56 → ¬ v0 = 57 → ¬ v0 = 58 → ¬ v0 = 59 → ¬ v0 = 60 → ¬ v0 = 61 → ¬ v0 = 62 → (v1 = 0 → (v2 = 0 → R (some (.int 0)) M) ∧ (¬ (v2 = 0) → R (some (.int 1)) M)) ∧ (¬ (v1 = 0) → R (some (.int 1)) M))) : Tr l G (d + 4) mX8_joined [.int v0, .int v1, .int v2] M R := by
  refine Tr.of rfl (Nat.le_of_ble_eq_true rfl) (vs := [some (.int v0), some (.int v1), some (.int v2)]) rfl ?_
  refine a_iload_n eX8_joined_0 rfl ?_
  by_cases w3 : v0 = 38
  · refine a_tswIn 38 (tgt := 183) eX8_joined_1 w3 (by decide) (by decide) rfl (by decide) ?_
    replace hv := hv.1 w3
    refine a_iload_n eX8_joined_183 rfl ?_
    refine a_if_eq (tgt := 195) eX8_joined_184 (by decide) (fun w1 => ?_) (fun w1 => ?_)
    · replace hv := hv.1 w1
      refine a_iconst (v := 0) eX8_joined_195 (by decide) ?_
      exact a_iret eX8_joined_196 rfl rfl hv
    · replace hv := hv.2 w1
      refine a_iload_n eX8_joined_187 rfl ?_
      refine a_if_eq (tgt := 195) eX8_joined_188 (by decide) (fun w2 => ?_) (fun w2 => ?_)
      · replace hv := hv.1 w2
        refine a_iconst (v := 0) eX8_joined_195 (by decide) ?_
        exact a_iret eX8_joined_196 rfl rfl hv
      · replace hv := hv.2 w2
        refine a_iconst (v := 1) eX8_joined_191 (by decide) ?_
        refine a_goto (tgt := 196) eX8_joined_192 (by decide) ?_
        exact a_iret eX8_joined_196 rfl rfl hv
  by_cases w6 : v0 = 39
  · refine a_tswIn 39 (tgt := 197) eX8_joined_1 w6 (by decide) (by decide) rfl (by decide) ?_
    replace hv := hv.2.1 w6
    refine a_iload_n eX8_joined_197 rfl ?_
    refine a_if_ne (tgt := 205) eX8_joined_198 (by decide) (fun w4 => ?_) (fun w4 => ?_)
    · replace hv := hv.2 w4
      refine a_iconst (v := 1) eX8_joined_205 (by decide) ?_
      refine a_goto (tgt := 210) eX8_joined_206 (by decide) ?_
      exact a_iret eX8_joined_210 rfl rfl hv
    · replace hv := hv.1 w4
      refine a_iload_n eX8_joined_201 rfl ?_
      refine a_if_eq (tgt := 209) eX8_joined_202 (by decide) (fun w5 => ?_) (fun w5 => ?_)
      · replace hv := hv.1 w5
        refine a_iconst (v := 0) eX8_joined_209 (by decide) ?_
        exact a_iret eX8_joined_210 rfl rfl hv
      · replace hv := hv.2 w5
        refine a_iconst (v := 1) eX8_joined_205 (by decide) ?_
        refine a_goto (tgt := 210) eX8_joined_206 (by decide) ?_
        exact a_iret eX8_joined_210 rfl rfl hv
  by_cases w9 : v0 = 40
  · refine a_tswIn 40 (tgt := 197) eX8_joined_1 w9 (by decide) (by decide) rfl (by decide) ?_
    replace hv := hv.2.2.1 w9
    refine a_iload_n eX8_joined_197 rfl ?_
    refine a_if_ne (tgt := 205) eX8_joined_198 (by decide) (fun w7 => ?_) (fun w7 => ?_)
    · replace hv := hv.2 w7
      refine a_iconst (v := 1) eX8_joined_205 (by decide) ?_
      refine a_goto (tgt := 210) eX8_joined_206 (by decide) ?_
      exact a_iret eX8_joined_210 rfl rfl hv
    · replace hv := hv.1 w7
      refine a_iload_n eX8_joined_201 rfl ?_
      refine a_if_eq (tgt := 209) eX8_joined_202 (by decide) (fun w8 => ?_) (fun w8 => ?_)
      · replace hv := hv.1 w8
        refine a_iconst (v := 0) eX8_joined_209 (by decide) ?_
        exact a_iret eX8_joined_210 rfl rfl hv
      · replace hv := hv.2 w8
        refine a_iconst (v := 1) eX8_joined_205 (by decide) ?_
        refine a_goto (tgt := 210) eX8_joined_206 (by decide) ?_
        exact a_iret eX8_joined_210 rfl rfl hv
  by_cases w12 : v0 = 41
  · refine a_tswIn 41 (tgt := 197) eX8_joined_1 w12 (by decide) (by decide) rfl (by decide) ?_
    replace hv := hv.2.2.2.1 w12
    refine a_iload_n eX8_joined_197 rfl ?_
    refine a_if_ne (tgt := 205) eX8_joined_198 (by decide) (fun w10 => ?_) (fun w10 => ?_)
    · replace hv := hv.2 w10
      refine a_iconst (v := 1) eX8_joined_205 (by decide) ?_
      refine a_goto (tgt := 210) eX8_joined_206 (by decide) ?_
      exact a_iret eX8_joined_210 rfl rfl hv
    · replace hv := hv.1 w10
      refine a_iload_n eX8_joined_201 rfl ?_
      refine a_if_eq (tgt := 209) eX8_joined_202 (by decide) (fun w11 => ?_) (fun w11 => ?_)
      · replace hv := hv.1 w11
        refine a_iconst (v := 0) eX8_joined_209 (by decide) ?_
        exact a_iret eX8_joined_210 rfl rfl hv
      · replace hv := hv.2 w11
        refine a_iconst (v := 1) eX8_joined_205 (by decide) ?_
        refine a_goto (tgt := 210) eX8_joined_206 (by decide) ?_
        exact a_iret eX8_joined_210 rfl rfl hv
  by_cases w13 : v0 = 42
  · refine a_tswIn 42 (tgt := 124) eX8_joined_1 w13 (by decide) (by decide) rfl (by decide) ?_
    replace hv := hv.2.2.2.2.1 w13
    refine a_iload_n eX8_joined_124 rfl ?_
    refine a_iload_n eX8_joined_125 rfl ?_
    refine a_imul eX8_joined_126 ?_
    exact a_iret eX8_joined_127 rfl rfl hv
  by_cases w14 : v0 = 43
  · refine a_tswIn 43 (tgt := 116) eX8_joined_1 w14 (by decide) (by decide) rfl (by decide) ?_
    replace hv := hv.2.2.2.2.2.1 w14
    refine a_iload_n eX8_joined_116 rfl ?_
    refine a_iload_n eX8_joined_117 rfl ?_
    refine a_iadd eX8_joined_118 ?_
    exact a_iret eX8_joined_119 rfl rfl hv
  by_cases w17 : v0 = 44
  · refine a_tswIn 44 (tgt := 197) eX8_joined_1 w17 (by decide) (by decide) rfl (by decide) ?_
    replace hv := hv.2.2.2.2.2.2.1 w17
    refine a_iload_n eX8_joined_197 rfl ?_
    refine a_if_ne (tgt := 205) eX8_joined_198 (by decide) (fun w15 => ?_) (fun w15 => ?_)
    · replace hv := hv.2 w15
      refine a_iconst (v := 1) eX8_joined_205 (by decide) ?_
      refine a_goto (tgt := 210) eX8_joined_206 (by decide) ?_
      exact a_iret eX8_joined_210 rfl rfl hv
    · replace hv := hv.1 w15
      refine a_iload_n eX8_joined_201 rfl ?_
      refine a_if_eq (tgt := 209) eX8_joined_202 (by decide) (fun w16 => ?_) (fun w16 => ?_)
      · replace hv := hv.1 w16
        refine a_iconst (v := 0) eX8_joined_209 (by decide) ?_
        exact a_iret eX8_joined_210 rfl rfl hv
      · replace hv := hv.2 w16
        refine a_iconst (v := 1) eX8_joined_205 (by decide) ?_
        refine a_goto (tgt := 210) eX8_joined_206 (by decide) ?_
        exact a_iret eX8_joined_210 rfl rfl hv
  by_cases w18 : v0 = 45
  · refine a_tswIn 45 (tgt := 120) eX8_joined_1 w18 (by decide) (by decide) rfl (by decide) ?_
    replace hv := hv.2.2.2.2.2.2.2.1 w18
    refine a_iload_n eX8_joined_120 rfl ?_
    refine a_iload_n eX8_joined_121 rfl ?_
    refine a_isub eX8_joined_122 ?_
    exact a_iret eX8_joined_123 rfl rfl hv
  by_cases w21 : v0 = 46
  · refine a_tswIn 46 (tgt := 197) eX8_joined_1 w21 (by decide) (by decide) rfl (by decide) ?_
    replace hv := hv.2.2.2.2.2.2.2.2.1 w21
    refine a_iload_n eX8_joined_197 rfl ?_
    refine a_if_ne (tgt := 205) eX8_joined_198 (by decide) (fun w19 => ?_) (fun w19 => ?_)
    · replace hv := hv.2 w19
      refine a_iconst (v := 1) eX8_joined_205 (by decide) ?_
      refine a_goto (tgt := 210) eX8_joined_206 (by decide) ?_
      exact a_iret eX8_joined_210 rfl rfl hv
    · replace hv := hv.1 w19
      refine a_iload_n eX8_joined_201 rfl ?_
      refine a_if_eq (tgt := 209) eX8_joined_202 (by decide) (fun w20 => ?_) (fun w20 => ?_)
      · replace hv := hv.1 w20
        refine a_iconst (v := 0) eX8_joined_209 (by decide) ?_
        exact a_iret eX8_joined_210 rfl rfl hv
      · replace hv := hv.2 w20
        refine a_iconst (v := 1) eX8_joined_205 (by decide) ?_
        refine a_goto (tgt := 210) eX8_joined_206 (by decide) ?_
        exact a_iret eX8_joined_210 rfl rfl hv
  by_cases w25 : v0 = 47
  · refine a_tswIn 47 (tgt := 128) eX8_joined_1 w25 (by decide) (by decide) rfl (by decide) ?_
    replace hv := hv.2.2.2.2.2.2.2.2.2.1 w25
    refine a_iload_n eX8_joined_128 rfl ?_
    refine a_if_ne (tgt := 136) eX8_joined_129 (by decide) (fun w22 => ?_) (fun w22 => ?_)
    · replace hv := hv.2 w22
      refine a_iload_n eX8_joined_136 rfl ?_
      refine a_iconst (v := (-1)) eX8_joined_137 (by decide) ?_
      refine a_icmp_ne (tgt := 146) eX8_joined_138 (by decide) (fun w23 => ?_) (fun w23 => ?_)
      · replace hv := hv.2 w23
        refine a_iload_n eX8_joined_146 rfl ?_
        refine a_iload_n eX8_joined_147 rfl ?_
        obtain ⟨h24, hv⟩ := hv
        refine a_idiv eX8_joined_148 h24 ?_
        exact a_iret eX8_joined_149 rfl rfl hv
      · replace hv := hv.1 w23
        refine a_iload_n eX8_joined_141 rfl ?_
        refine a_ineg eX8_joined_142 ?_
        refine a_goto (tgt := 149) eX8_joined_143 (by decide) ?_
        exact a_iret eX8_joined_149 rfl rfl hv
    · replace hv := hv.1 w22
      refine a_iconst (v := 0) eX8_joined_132 (by decide) ?_
      refine a_goto (tgt := 149) eX8_joined_133 (by decide) ?_
      exact a_iret eX8_joined_149 rfl rfl hv
  by_cases w28 : v0 = 48
  · refine a_tswIn 48 (tgt := 197) eX8_joined_1 w28 (by decide) (by decide) rfl (by decide) ?_
    replace hv := hv.2.2.2.2.2.2.2.2.2.2.1 w28
    refine a_iload_n eX8_joined_197 rfl ?_
    refine a_if_ne (tgt := 205) eX8_joined_198 (by decide) (fun w26 => ?_) (fun w26 => ?_)
    · replace hv := hv.2 w26
      refine a_iconst (v := 1) eX8_joined_205 (by decide) ?_
      refine a_goto (tgt := 210) eX8_joined_206 (by decide) ?_
      exact a_iret eX8_joined_210 rfl rfl hv
    · replace hv := hv.1 w26
      refine a_iload_n eX8_joined_201 rfl ?_
      refine a_if_eq (tgt := 209) eX8_joined_202 (by decide) (fun w27 => ?_) (fun w27 => ?_)
      · replace hv := hv.1 w27
        refine a_iconst (v := 0) eX8_joined_209 (by decide) ?_
        exact a_iret eX8_joined_210 rfl rfl hv
      · replace hv := hv.2 w27
        refine a_iconst (v := 1) eX8_joined_205 (by decide) ?_
        refine a_goto (tgt := 210) eX8_joined_206 (by decide) ?_
        exact a_iret eX8_joined_210 rfl rfl hv
  by_cases w31 : v0 = 49
  · refine a_tswIn 49 (tgt := 197) eX8_joined_1 w31 (by decide) (by decide) rfl (by decide) ?_
    replace hv := hv.2.2.2.2.2.2.2.2.2.2.2.1 w31
    refine a_iload_n eX8_joined_197 rfl ?_
    refine a_if_ne (tgt := 205) eX8_joined_198 (by decide) (fun w29 => ?_) (fun w29 => ?_)
    · replace hv := hv.2 w29
      refine a_iconst (v := 1) eX8_joined_205 (by decide) ?_
      refine a_goto (tgt := 210) eX8_joined_206 (by decide) ?_
      exact a_iret eX8_joined_210 rfl rfl hv
    · replace hv := hv.1 w29
      refine a_iload_n eX8_joined_201 rfl ?_
      refine a_if_eq (tgt := 209) eX8_joined_202 (by decide) (fun w30 => ?_) (fun w30 => ?_)
      · replace hv := hv.1 w30
        refine a_iconst (v := 0) eX8_joined_209 (by decide) ?_
        exact a_iret eX8_joined_210 rfl rfl hv
      · replace hv := hv.2 w30
        refine a_iconst (v := 1) eX8_joined_205 (by decide) ?_
        refine a_goto (tgt := 210) eX8_joined_206 (by decide) ?_
        exact a_iret eX8_joined_210 rfl rfl hv
  by_cases w34 : v0 = 50
  · refine a_tswIn 50 (tgt := 197) eX8_joined_1 w34 (by decide) (by decide) rfl (by decide) ?_
    replace hv := hv.2.2.2.2.2.2.2.2.2.2.2.2.1 w34
    refine a_iload_n eX8_joined_197 rfl ?_
    refine a_if_ne (tgt := 205) eX8_joined_198 (by decide) (fun w32 => ?_) (fun w32 => ?_)
    · replace hv := hv.2 w32
      refine a_iconst (v := 1) eX8_joined_205 (by decide) ?_
      refine a_goto (tgt := 210) eX8_joined_206 (by decide) ?_
      exact a_iret eX8_joined_210 rfl rfl hv
    · replace hv := hv.1 w32
      refine a_iload_n eX8_joined_201 rfl ?_
      refine a_if_eq (tgt := 209) eX8_joined_202 (by decide) (fun w33 => ?_) (fun w33 => ?_)
      · replace hv := hv.1 w33
        refine a_iconst (v := 0) eX8_joined_209 (by decide) ?_
        exact a_iret eX8_joined_210 rfl rfl hv
      · replace hv := hv.2 w33
        refine a_iconst (v := 1) eX8_joined_205 (by decide) ?_
        refine a_goto (tgt := 210) eX8_joined_206 (by decide) ?_
        exact a_iret eX8_joined_210 rfl rfl hv
  by_cases w37 : v0 = 51
  · refine a_tswIn 51 (tgt := 197) eX8_joined_1 w37 (by decide) (by decide) rfl (by decide) ?_
    replace hv := hv.2.2.2.2.2.2.2.2.2.2.2.2.2.1 w37
    refine a_iload_n eX8_joined_197 rfl ?_
    refine a_if_ne (tgt := 205) eX8_joined_198 (by decide) (fun w35 => ?_) (fun w35 => ?_)
    · replace hv := hv.2 w35
      refine a_iconst (v := 1) eX8_joined_205 (by decide) ?_
      refine a_goto (tgt := 210) eX8_joined_206 (by decide) ?_
      exact a_iret eX8_joined_210 rfl rfl hv
    · replace hv := hv.1 w35
      refine a_iload_n eX8_joined_201 rfl ?_
      refine a_if_eq (tgt := 209) eX8_joined_202 (by decide) (fun w36 => ?_) (fun w36 => ?_)
      · replace hv := hv.1 w36
        refine a_iconst (v := 0) eX8_joined_209 (by decide) ?_
        exact a_iret eX8_joined_210 rfl rfl hv
      · replace hv := hv.2 w36
        refine a_iconst (v := 1) eX8_joined_205 (by decide) ?_
        refine a_goto (tgt := 210) eX8_joined_206 (by decide) ?_
        exact a_iret eX8_joined_210 rfl rfl hv
  by_cases w40 : v0 = 52
  · refine a_tswIn 52 (tgt := 197) eX8_joined_1 w40 (by decide) (by decide) rfl (by decide) ?_
    replace hv := hv.2.2.2.2.2.2.2.2.2.2.2.2.2.2.1 w40
    refine a_iload_n eX8_joined_197 rfl ?_
    refine a_if_ne (tgt := 205) eX8_joined_198 (by decide) (fun w38 => ?_) (fun w38 => ?_)
    · replace hv := hv.2 w38
      refine a_iconst (v := 1) eX8_joined_205 (by decide) ?_
      refine a_goto (tgt := 210) eX8_joined_206 (by decide) ?_
      exact a_iret eX8_joined_210 rfl rfl hv
    · replace hv := hv.1 w38
      refine a_iload_n eX8_joined_201 rfl ?_
      refine a_if_eq (tgt := 209) eX8_joined_202 (by decide) (fun w39 => ?_) (fun w39 => ?_)
      · replace hv := hv.1 w39
        refine a_iconst (v := 0) eX8_joined_209 (by decide) ?_
        exact a_iret eX8_joined_210 rfl rfl hv
      · replace hv := hv.2 w39
        refine a_iconst (v := 1) eX8_joined_205 (by decide) ?_
        refine a_goto (tgt := 210) eX8_joined_206 (by decide) ?_
        exact a_iret eX8_joined_210 rfl rfl hv
  by_cases w43 : v0 = 53
  · refine a_tswIn 53 (tgt := 197) eX8_joined_1 w43 (by decide) (by decide) rfl (by decide) ?_
    replace hv := hv.2.2.2.2.2.2.2.2.2.2.2.2.2.2.2.1 w43
    refine a_iload_n eX8_joined_197 rfl ?_
    refine a_if_ne (tgt := 205) eX8_joined_198 (by decide) (fun w41 => ?_) (fun w41 => ?_)
    · replace hv := hv.2 w41
      refine a_iconst (v := 1) eX8_joined_205 (by decide) ?_
      refine a_goto (tgt := 210) eX8_joined_206 (by decide) ?_
      exact a_iret eX8_joined_210 rfl rfl hv
    · replace hv := hv.1 w41
      refine a_iload_n eX8_joined_201 rfl ?_
      refine a_if_eq (tgt := 209) eX8_joined_202 (by decide) (fun w42 => ?_) (fun w42 => ?_)
      · replace hv := hv.1 w42
        refine a_iconst (v := 0) eX8_joined_209 (by decide) ?_
        exact a_iret eX8_joined_210 rfl rfl hv
      · replace hv := hv.2 w42
        refine a_iconst (v := 1) eX8_joined_205 (by decide) ?_
        refine a_goto (tgt := 210) eX8_joined_206 (by decide) ?_
        exact a_iret eX8_joined_210 rfl rfl hv
  by_cases w46 : v0 = 54
  · refine a_tswIn 54 (tgt := 197) eX8_joined_1 w46 (by decide) (by decide) rfl (by decide) ?_
    replace hv := hv.2.2.2.2.2.2.2.2.2.2.2.2.2.2.2.2.1 w46
    refine a_iload_n eX8_joined_197 rfl ?_
    refine a_if_ne (tgt := 205) eX8_joined_198 (by decide) (fun w44 => ?_) (fun w44 => ?_)
    · replace hv := hv.2 w44
      refine a_iconst (v := 1) eX8_joined_205 (by decide) ?_
      refine a_goto (tgt := 210) eX8_joined_206 (by decide) ?_
      exact a_iret eX8_joined_210 rfl rfl hv
    · replace hv := hv.1 w44
      refine a_iload_n eX8_joined_201 rfl ?_
      refine a_if_eq (tgt := 209) eX8_joined_202 (by decide) (fun w45 => ?_) (fun w45 => ?_)
      · replace hv := hv.1 w45
        refine a_iconst (v := 0) eX8_joined_209 (by decide) ?_
        exact a_iret eX8_joined_210 rfl rfl hv
      · replace hv := hv.2 w45
        refine a_iconst (v := 1) eX8_joined_205 (by decide) ?_
        refine a_goto (tgt := 210) eX8_joined_206 (by decide) ?_
        exact a_iret eX8_joined_210 rfl rfl hv
  by_cases w49 : v0 = 55
  · refine a_tswIn 55 (tgt := 197) eX8_joined_1 w49 (by decide) (by decide) rfl (by decide) ?_
    replace hv := hv.2.2.2.2.2.2.2.2.2.2.2.2.2.2.2.2.2.1 w49
    refine a_iload_n eX8_joined_197 rfl ?_
    refine a_if_ne (tgt := 205) eX8_joined_198 (by decide) (fun w47 => ?_) (fun w47 => ?_)
    · replace hv := hv.2 w47
      refine a_iconst (v := 1) eX8_joined_205 (by decide) ?_
      refine a_goto (tgt := 210) eX8_joined_206 (by decide) ?_
      exact a_iret eX8_joined_210 rfl rfl hv
    · replace hv := hv.1 w47
      refine a_iload_n eX8_joined_201 rfl ?_
      refine a_if_eq (tgt := 209) eX8_joined_202 (by decide) (fun w48 => ?_) (fun w48 => ?_)
      · replace hv := hv.1 w48
        refine a_iconst (v := 0) eX8_joined_209 (by decide) ?_
        exact a_iret eX8_joined_210 rfl rfl hv
      · replace hv := hv.2 w48
        refine a_iconst (v := 1) eX8_joined_205 (by decide) ?_
        refine a_goto (tgt := 210) eX8_joined_206 (by decide) ?_
        exact a_iret eX8_joined_210 rfl rfl hv
  by_cases w52 : v0 = 56
  · refine a_tswIn 56 (tgt := 197) eX8_joined_1 w52 (by decide) (by decide) rfl (by decide) ?_
    replace hv := hv.2.2.2.2.2.2.2.2.2.2.2.2.2.2.2.2.2.2.1 w52
    refine a_iload_n eX8_joined_197 rfl ?_
    refine a_if_ne (tgt := 205) eX8_joined_198 (by decide) (fun w50 => ?_) (fun w50 => ?_)
    · replace hv := hv.2 w50
      refine a_iconst (v := 1) eX8_joined_205 (by decide) ?_
      refine a_goto (tgt := 210) eX8_joined_206 (by decide) ?_
      exact a_iret eX8_joined_210 rfl rfl hv
    · replace hv := hv.1 w50
      refine a_iload_n eX8_joined_201 rfl ?_
      refine a_if_eq (tgt := 209) eX8_joined_202 (by decide) (fun w51 => ?_) (fun w51 => ?_)
      · replace hv := hv.1 w51
        refine a_iconst (v := 0) eX8_joined_209 (by decide) ?_
        exact a_iret eX8_joined_210 rfl rfl hv
      · replace hv := hv.2 w51
        refine a_iconst (v := 1) eX8_joined_205 (by decide) ?_
        refine a_goto (tgt := 210) eX8_joined_206 (by decide) ?_
        exact a_iret eX8_joined_210 rfl rfl hv
  by_cases w55 : v0 = 57
  · refine a_tswIn 57 (tgt := 197) eX8_joined_1 w55 (by decide) (by decide) rfl (by decide) ?_
    replace hv := hv.2.2.2.2.2.2.2.2.2.2.2.2.2.2.2.2.2.2.2.1 w55
    refine a_iload_n eX8_joined_197 rfl ?_
    refine a_if_ne (tgt := 205) eX8_joined_198 (by decide) (fun w53 => ?_) (fun w53 => ?_)
    · replace hv := hv.2 w53
      refine a_iconst (v := 1) eX8_joined_205 (by decide) ?_
      refine a_goto (tgt := 210) eX8_joined_206 (by decide) ?_
      exact a_iret eX8_joined_210 rfl rfl hv
    · replace hv := hv.1 w53
      refine a_iload_n eX8_joined_201 rfl ?_
      refine a_if_eq (tgt := 209) eX8_joined_202 (by decide) (fun w54 => ?_) (fun w54 => ?_)
      · replace hv := hv.1 w54
        refine a_iconst (v := 0) eX8_joined_209 (by decide) ?_
        exact a_iret eX8_joined_210 rfl rfl hv
      · replace hv := hv.2 w54
        refine a_iconst (v := 1) eX8_joined_205 (by decide) ?_
        refine a_goto (tgt := 210) eX8_joined_206 (by decide) ?_
        exact a_iret eX8_joined_210 rfl rfl hv
  by_cases w58 : v0 = 58
  · refine a_tswIn 58 (tgt := 197) eX8_joined_1 w58 (by decide) (by decide) rfl (by decide) ?_
    replace hv := hv.2.2.2.2.2.2.2.2.2.2.2.2.2.2.2.2.2.2.2.2.1 w58
    refine a_iload_n eX8_joined_197 rfl ?_
    refine a_if_ne (tgt := 205) eX8_joined_198 (by decide) (fun w56 => ?_) (fun w56 => ?_)
    · replace hv := hv.2 w56
      refine a_iconst (v := 1) eX8_joined_205 (by decide) ?_
      refine a_goto (tgt := 210) eX8_joined_206 (by decide) ?_
      exact a_iret eX8_joined_210 rfl rfl hv
    · replace hv := hv.1 w56
      refine a_iload_n eX8_joined_201 rfl ?_
      refine a_if_eq (tgt := 209) eX8_joined_202 (by decide) (fun w57 => ?_) (fun w57 => ?_)
      · replace hv := hv.1 w57
        refine a_iconst (v := 0) eX8_joined_209 (by decide) ?_
        exact a_iret eX8_joined_210 rfl rfl hv
      · replace hv := hv.2 w57
        refine a_iconst (v := 1) eX8_joined_205 (by decide) ?_
        refine a_goto (tgt := 210) eX8_joined_206 (by decide) ?_
        exact a_iret eX8_joined_210 rfl rfl hv
  by_cases w61 : v0 = 59
  · refine a_tswIn 59 (tgt := 197) eX8_joined_1 w61 (by decide) (by decide) rfl (by decide) ?_
    replace hv := hv.2.2.2.2.2.2.2.2.2.2.2.2.2.2.2.2.2.2.2.2.2.1 w61
    refine a_iload_n eX8_joined_197 rfl ?_
    refine a_if_ne (tgt := 205) eX8_joined_198 (by decide) (fun w59 => ?_) (fun w59 => ?_)
    · replace hv := hv.2 w59
      refine a_iconst (v := 1) eX8_joined_205 (by decide) ?_
      refine a_goto (tgt := 210) eX8_joined_206 (by decide) ?_
      exact a_iret eX8_joined_210 rfl rfl hv
    · replace hv := hv.1 w59
      refine a_iload_n eX8_joined_201 rfl ?_
      refine a_if_eq (tgt := 209) eX8_joined_202 (by decide) (fun w60 => ?_) (fun w60 => ?_)
      · replace hv := hv.1 w60
        refine a_iconst (v := 0) eX8_joined_209 (by decide) ?_
        exact a_iret eX8_joined_210 rfl rfl hv
      · replace hv := hv.2 w60
        refine a_iconst (v := 1) eX8_joined_205 (by decide) ?_
        refine a_goto (tgt := 210) eX8_joined_206 (by decide) ?_
        exact a_iret eX8_joined_210 rfl rfl hv
  by_cases w63 : v0 = 60
  · refine a_tswIn 60 (tgt := 150) eX8_joined_1 w63 (by decide) (by decide) rfl (by decide) ?_
    replace hv := hv.2.2.2.2.2.2.2.2.2.2.2.2.2.2.2.2.2.2.2.2.2.2.1 w63
    refine a_iload_n eX8_joined_150 rfl ?_
    refine a_iload_n eX8_joined_151 rfl ?_
    refine a_icmp_ge (tgt := 159) eX8_joined_152 (by decide) (fun w62 => ?_) (fun w62 => ?_)
    · replace hv := hv.1 w62
      refine a_iconst (v := 0) eX8_joined_159 (by decide) ?_
      exact a_iret eX8_joined_160 rfl rfl hv
    · replace hv := hv.2 w62
      refine a_iconst (v := 1) eX8_joined_155 (by decide) ?_
      refine a_goto (tgt := 160) eX8_joined_156 (by decide) ?_
      exact a_iret eX8_joined_160 rfl rfl hv
  by_cases w65 : v0 = 61
  · refine a_tswIn 61 (tgt := 172) eX8_joined_1 w65 (by decide) (by decide) rfl (by decide) ?_
    replace hv := hv.2.2.2.2.2.2.2.2.2.2.2.2.2.2.2.2.2.2.2.2.2.2.2.1 w65
    refine a_iload_n eX8_joined_172 rfl ?_
    refine a_iload_n eX8_joined_173 rfl ?_
    refine a_icmp_ne (tgt := 181) eX8_joined_174 (by decide) (fun w64 => ?_) (fun w64 => ?_)
    · replace hv := hv.2 w64
      refine a_iconst (v := 0) eX8_joined_181 (by decide) ?_
      exact a_iret eX8_joined_182 rfl rfl hv
    · replace hv := hv.1 w64
      refine a_iconst (v := 1) eX8_joined_177 (by decide) ?_
      refine a_goto (tgt := 182) eX8_joined_178 (by decide) ?_
      exact a_iret eX8_joined_182 rfl rfl hv
  by_cases w67 : v0 = 62
  · refine a_tswIn 62 (tgt := 161) eX8_joined_1 w67 (by decide) (by decide) rfl (by decide) ?_
    replace hv := hv.2.2.2.2.2.2.2.2.2.2.2.2.2.2.2.2.2.2.2.2.2.2.2.2.1 w67
    refine a_iload_n eX8_joined_161 rfl ?_
    refine a_iload_n eX8_joined_162 rfl ?_
    refine a_icmp_le (tgt := 170) eX8_joined_163 (by decide) (fun w66 => ?_) (fun w66 => ?_)
    · replace hv := hv.1 w66
      refine a_iconst (v := 0) eX8_joined_170 (by decide) ?_
      exact a_iret eX8_joined_171 rfl rfl hv
    · replace hv := hv.2 w66
      refine a_iconst (v := 1) eX8_joined_166 (by decide) ?_
      refine a_goto (tgt := 171) eX8_joined_167 (by decide) ?_
      exact a_iret eX8_joined_171 rfl rfl hv
  refine a_tswOut (tgt := 197) eX8_joined_1 (by have zw3 := lv_neT (a := 38) w3 (by decide); have zw6 := lv_neT (a := 39) w6 (by decide); have zw9 := lv_neT (a := 40) w9 (by decide); have zw12 := lv_neT (a := 41) w12 (by decide); have zw13 := lv_neT (a := 42) w13 (by decide); have zw14 := lv_neT (a := 43) w14 (by decide); have zw17 := lv_neT (a := 44) w17 (by decide); have zw18 := lv_neT (a := 45) w18 (by decide); have zw21 := lv_neT (a := 46) w21 (by decide); have zw25 := lv_neT (a := 47) w25 (by decide); have zw28 := lv_neT (a := 48) w28 (by decide); have zw31 := lv_neT (a := 49) w31 (by decide); have zw34 := lv_neT (a := 50) w34 (by decide); have zw37 := lv_neT (a := 51) w37 (by decide); have zw40 := lv_neT (a := 52) w40 (by decide); have zw43 := lv_neT (a := 53) w43 (by decide); have zw46 := lv_neT (a := 54) w46 (by decide); have zw49 := lv_neT (a := 55) w49 (by decide); have zw52 := lv_neT (a := 56) w52 (by decide); have zw55 := lv_neT (a := 57) w55 (by decide); have zw58 := lv_neT (a := 58) w58 (by decide); have zw61 := lv_neT (a := 59) w61 (by decide); have zw63 := lv_neT (a := 60) w63 (by decide); have zw65 := lv_neT (a := 61) w65 (by decide); have zw67 := lv_neT (a := 62) w67 (by decide); omega) (by decide) ?_
  replace hv := hv.2.2.2.2.2.2.2.2.2.2.2.2.2.2.2.2.2.2.2.2.2.2.2.2.2 w3 w6 w9 w12 w13 w14 w17 w18 w21 w25 w28 w31 w34 w37 w40 w43 w46 w49 w52 w55 w58 w61 w63 w65 w67
  refine a_iload_n eX8_joined_197 rfl ?_
  refine a_if_ne (tgt := 205) eX8_joined_198 (by decide) (fun w68 => ?_) (fun w68 => ?_)
  · replace hv := hv.2 w68
    refine a_iconst (v := 1) eX8_joined_205 (by decide) ?_
    refine a_goto (tgt := 210) eX8_joined_206 (by decide) ?_
    exact a_iret eX8_joined_210 rfl rfl hv
  · replace hv := hv.1 w68
    refine a_iload_n eX8_joined_201 rfl ?_
    refine a_if_eq (tgt := 209) eX8_joined_202 (by decide) (fun w69 => ?_) (fun w69 => ?_)
    · replace hv := hv.1 w69
      refine a_iconst (v := 0) eX8_joined_209 (by decide) ?_
      exact a_iret eX8_joined_210 rfl rfl hv
    · replace hv := hv.2 w69
      refine a_iconst (v := 1) eX8_joined_205 (by decide) ?_
      refine a_goto (tgt := 210) eX8_joined_206 (by decide) ?_
      exact a_iret eX8_joined_210 rfl rfl hv
theorem tX8_worked {l : Launch} {G : GT} {d : Nat} {M : Mem} {R : Option Value → Mem → Prop} {v1 : Int32} (hv : At l G (d + 4) mX8_worked 4 [some (.ref (G.1 100)), some (.int v1), some (.int 0), some (.int 0), none, none] [] M R) : Tr l G (d + 4) mX8_worked [.ref (G.1 100), .int v1] M R := by
  refine Tr.of rfl (Nat.le_of_ble_eq_true rfl) (vs := [some (.ref (G.1 100)), some (.int v1), none, none, none, none]) rfl ?_
  refine a_iconst (v := 0) eX8_worked_0 (by decide) ?_
  refine a_istore_n (vs' := [some (.ref (G.1 100)), some (.int v1), some (.int 0), none, none, none]) eX8_worked_1 rfl (Nat.le_of_ble_eq_true rfl) rfl ?_
  refine a_iconst (v := 0) eX8_worked_2 (by decide) ?_
  refine a_istore_n (vs' := [some (.ref (G.1 100)), some (.int v1), some (.int 0), some (.int 0), none, none]) eX8_worked_3 rfl (Nat.le_of_ble_eq_true rfl) rfl ?_
  exact a_weak [true, true, true, true, false, false] rfl rfl hv
theorem bX8_worked_4 {l : Launch} {G : GT} {d : Nat} {M : Mem} {R : Option Value → Mem → Prop} {v1 : Int32} {v2 : Int32} {v3 : Int32} (hv : vp_in ((84 + (200 * v1)) + 2) 3084 ∧ ((M 101 (ix ((84 + (200 * v1)) + 2))) ≤ v3 → R (some (.int (M 116 0))) M) ∧ (¬ ((M 101 (ix ((84 + (200 * v1)) + 2))) ≤ v3) → vp_in (((84 + (200 * v1)) + 4) + (2 * v3)) 3084 ∧ vp_in ((((84 + (200 * v1)) + 4) + (2 * v3)) + 1) 3084 ∧ ((M 101 (ix (((84 + (200 * v1)) + 4) + (2 * v3)))) = 2 → ((M 101 (ix ((((84 + (200 * v1)) + 4) + (2 * v3)) + 1))) = 33 → vp_in (v2 - 1) 100 ∧ ((M 116 (ix (v2 - 1))) = 0 → vp_in (v2 - 1) 100 ∧ At l G (d + 4) mX8_worked 4 [some (.ref (G.1 100)), some (.int v1), some (.int v2), some (.int (v3 + 1)), none, none] [] (um M 116 (ix (v2 - 1)) 1) R) ∧ (¬ ((M 116 (ix (v2 - 1))) = 0) → vp_in (v2 - 1) 100 ∧ At l G (d + 4) mX8_worked 4 [some (.ref (G.1 100)), some (.int v1), some (.int v2), some (.int (v3 + 1)), none, none] [] (um M 116 (ix (v2 - 1)) 0) R)) ∧ (¬ ((M 101 (ix ((((84 + (200 * v1)) + 4) + (2 * v3)) + 1))) = 33) → vp_in ((v2 + (-1)) - 1) 100 ∧ vp_in (v2 + (-1)) 100 ∧ Tr l G (d + 3) mX8_joined [.int (M 101 (ix ((((84 + (200 * v1)) + 4) + (2 * v3)) + 1))), .int (M 116 (ix ((v2 + (-1)) - 1))), .int (M 116 (ix (v2 + (-1))))] M (kI fun q M' => At l G (d + 4) mX8_worked 156 [some (.ref (G.1 100)), some (.int v1), some (.int (v2 + (-1))), some (.int v3), none, none] [.int q, .int ((v2 + (-1)) - 1), .ref (G.1 116)] M' R))) ∧ (¬ ((M 101 (ix (((84 + (200 * v1)) + 4) + (2 * v3)))) = 2) → ((M 101 (ix (((84 + (200 * v1)) + 4) + (2 * v3)))) = 0 → vp_in v2 100 ∧ ∀ M18 : Mem, M18 = um M 116 (ix v2) (M 101 (ix ((((84 + (200 * v1)) + 4) + (2 * v3)) + 1))) → At l G (d + 4) mX8_worked 4 [some (.ref (G.1 100)), some (.int v1), some (.int (v2 + 1)), some (.int (v3 + 1)), none, none] [] M18 R) ∧ (¬ ((M 101 (ix (((84 + (200 * v1)) + 4) + (2 * v3)))) = 0) → vp_in (M 101 (ix ((((84 + (200 * v1)) + 4) + (2 * v3)) + 1))) 128 ∧ vp_in v2 100 ∧ ∀ M16 : Mem, M16 = um M 116 (ix v2) (M 115 (ix (M 101 (ix ((((84 + (200 * v1)) + 4) + (2 * v3)) + 1))))) → At l G (d + 4) mX8_worked 4 [some (.ref (G.1 100)), some (.int v1), some (.int (v2 + 1)), some (.int (v3 + 1)), none, none] [] M16 R)))) : At l G (d + 4) mX8_worked 4 [some (.ref (G.1 100)), some (.int v1), some (.int v2), some (.int v3), none, none] [] M R := by
  refine a_iload_n eX8_worked_4 rfl ?_
  refine a_aload_n eX8_worked_5 rfl ?_
  refine gX8_0 eX8_worked_6 fl_X8_7 ?_
  refine a_aload_n eX8_worked_9 rfl ?_
  refine a_iload_n eX8_worked_10 rfl ?_
  refine qX8_315 rfl eX8_worked_11 (Nat.le_of_ble_eq_true rfl) ?_
  refine Tr.of rfl (Nat.le_of_ble_eq_true rfl) (vs := [some (.ref (G.1 100)), some (.int v1)]) rfl ?_
  refine a_bipush (v := 84) eX8_textAt_0 (by decide) ?_
  refine a_sipush (v := 200) eX8_textAt_2 (by decide) ?_
  refine a_iload_n eX8_textAt_5 rfl ?_
  refine a_imul eX8_textAt_6 ?_
  refine a_iadd eX8_textAt_7 ?_
  refine a_iret eX8_textAt_8 rfl rfl (ret_i ?_)
  refine a_iconst (v := 2) eX8_worked_14 (by decide) ?_
  refine a_iadd eX8_worked_15 ?_
  obtain ⟨h1, hv⟩ := hv
  refine a_iald eX8_worked_16 sA101 kA101 h1 ?_
  refine a_icmp_ge (tgt := 163) eX8_worked_17 (by decide) (fun w2 => ?_) (fun w2 => ?_)
  · replace hv := hv.1 w2
    refine a_aload_n eX8_worked_163 rfl ?_
    refine gX8_27 eX8_worked_164 fl_X8_55 ?_
    refine a_iconst (v := 0) eX8_worked_167 (by decide) ?_
    refine a_ialdc 0 eX8_worked_168 sA116 kA116 (by decide) (by decide) ?_
    exact a_iret eX8_worked_169 rfl rfl hv
  · replace hv := hv.2 w2
    refine a_aload_n eX8_worked_20 rfl ?_
    refine gX8_0 eX8_worked_21 fl_X8_7 ?_
    refine a_aload_n eX8_worked_24 rfl ?_
    refine a_iload_n eX8_worked_25 rfl ?_
    refine qX8_315 rfl eX8_worked_26 (Nat.le_of_ble_eq_true rfl) ?_
    refine Tr.of rfl (Nat.le_of_ble_eq_true rfl) (vs := [some (.ref (G.1 100)), some (.int v1)]) rfl ?_
    refine a_bipush (v := 84) eX8_textAt_0 (by decide) ?_
    refine a_sipush (v := 200) eX8_textAt_2 (by decide) ?_
    refine a_iload_n eX8_textAt_5 rfl ?_
    refine a_imul eX8_textAt_6 ?_
    refine a_iadd eX8_textAt_7 ?_
    refine a_iret eX8_textAt_8 rfl rfl (ret_i ?_)
    refine a_iconst (v := 4) eX8_worked_29 (by decide) ?_
    refine a_iadd eX8_worked_30 ?_
    refine a_iconst (v := 2) eX8_worked_31 (by decide) ?_
    refine a_iload_n eX8_worked_32 rfl ?_
    refine a_imul eX8_worked_33 ?_
    refine a_iadd eX8_worked_34 ?_
    obtain ⟨h3, hv⟩ := hv
    refine a_iald eX8_worked_35 sA101 kA101 h3 ?_
    refine a_istore (vs' := [some (.ref (G.1 100)), some (.int v1), some (.int v2), some (.int v3), some (.int (M 101 (ix (((84 + (200 * v1)) + 4) + (2 * v3))))), none]) eX8_worked_36 rfl (Nat.le_of_ble_eq_true rfl) rfl ?_
    refine a_aload_n eX8_worked_38 rfl ?_
    refine gX8_0 eX8_worked_39 fl_X8_7 ?_
    refine a_aload_n eX8_worked_42 rfl ?_
    refine a_iload_n eX8_worked_43 rfl ?_
    refine qX8_315 rfl eX8_worked_44 (Nat.le_of_ble_eq_true rfl) ?_
    refine Tr.of rfl (Nat.le_of_ble_eq_true rfl) (vs := [some (.ref (G.1 100)), some (.int v1)]) rfl ?_
    refine a_bipush (v := 84) eX8_textAt_0 (by decide) ?_
    refine a_sipush (v := 200) eX8_textAt_2 (by decide) ?_
    refine a_iload_n eX8_textAt_5 rfl ?_
    refine a_imul eX8_textAt_6 ?_
    refine a_iadd eX8_textAt_7 ?_
    refine a_iret eX8_textAt_8 rfl rfl (ret_i ?_)
    refine a_iconst (v := 4) eX8_worked_47 (by decide) ?_
    refine a_iadd eX8_worked_48 ?_
    refine a_iconst (v := 2) eX8_worked_49 (by decide) ?_
    refine a_iload_n eX8_worked_50 rfl ?_
    refine a_imul eX8_worked_51 ?_
    refine a_iadd eX8_worked_52 ?_
    refine a_iconst (v := 1) eX8_worked_53 (by decide) ?_
    refine a_iadd eX8_worked_54 ?_
    obtain ⟨h4, hv⟩ := hv
    refine a_iald eX8_worked_55 sA101 kA101 h4 ?_
    refine a_istore (vs' := [some (.ref (G.1 100)), some (.int v1), some (.int v2), some (.int v3), some (.int (M 101 (ix (((84 + (200 * v1)) + 4) + (2 * v3))))), some (.int (M 101 (ix ((((84 + (200 * v1)) + 4) + (2 * v3)) + 1))))]) eX8_worked_56 rfl (Nat.le_of_ble_eq_true rfl) rfl ?_
    refine a_iload eX8_worked_58 rfl ?_
    refine a_iconst (v := 2) eX8_worked_60 (by decide) ?_
    refine a_icmp_eq (tgt := 93) eX8_worked_61 (by decide) (fun w5 => ?_) (fun w5 => ?_)
    · replace hv := hv.1 w5
      refine a_iload eX8_worked_93 rfl ?_
      refine a_bipush (v := 33) eX8_worked_95 (by decide) ?_
      refine a_icmp_ne (tgt := 127) eX8_worked_97 (by decide) (fun w6 => ?_) (fun w6 => ?_)
      · replace hv := hv.2 w6
        refine a_iinc (v := (-1)) (vs' := [some (.ref (G.1 100)), some (.int v1), some (.int (v2 + (-1))), some (.int v3), some (.int (M 101 (ix (((84 + (200 * v1)) + 4) + (2 * v3))))), some (.int (M 101 (ix ((((84 + (200 * v1)) + 4) + (2 * v3)) + 1))))]) eX8_worked_127 rfl rfl (by decide) rfl ?_
        refine a_aload_n eX8_worked_130 rfl ?_
        refine gX8_27 eX8_worked_131 fl_X8_55 ?_
        refine a_iload_n eX8_worked_134 rfl ?_
        refine a_iconst (v := 1) eX8_worked_135 (by decide) ?_
        refine a_isub eX8_worked_136 ?_
        refine a_iload eX8_worked_137 rfl ?_
        refine a_aload_n eX8_worked_139 rfl ?_
        refine gX8_27 eX8_worked_140 fl_X8_55 ?_
        refine a_iload_n eX8_worked_143 rfl ?_
        refine a_iconst (v := 1) eX8_worked_144 (by decide) ?_
        refine a_isub eX8_worked_145 ?_
        obtain ⟨h7, hv⟩ := hv
        refine a_iald eX8_worked_146 sA116 kA116 h7 ?_
        refine a_aload_n eX8_worked_147 rfl ?_
        refine gX8_27 eX8_worked_148 fl_X8_55 ?_
        refine a_iload_n eX8_worked_151 rfl ?_
        obtain ⟨h8, hv⟩ := hv
        refine a_iald eX8_worked_152 sA116 kA116 h8 ?_
        exact qX8_327 rfl eX8_worked_153 (Nat.le_of_ble_eq_true rfl) (tr_I [true, true, true, true, false, false] rfl rfl hv)
      · replace hv := hv.1 w6
        refine a_aload_n eX8_worked_100 rfl ?_
        refine gX8_27 eX8_worked_101 fl_X8_55 ?_
        refine a_iload_n eX8_worked_104 rfl ?_
        refine a_iconst (v := 1) eX8_worked_105 (by decide) ?_
        refine a_isub eX8_worked_106 ?_
        refine a_aload_n eX8_worked_107 rfl ?_
        refine gX8_27 eX8_worked_108 fl_X8_55 ?_
        refine a_iload_n eX8_worked_111 rfl ?_
        refine a_iconst (v := 1) eX8_worked_112 (by decide) ?_
        refine a_isub eX8_worked_113 ?_
        obtain ⟨h9, hv⟩ := hv
        refine a_iald eX8_worked_114 sA116 kA116 h9 ?_
        refine a_if_ne (tgt := 122) eX8_worked_115 (by decide) (fun w10 => ?_) (fun w10 => ?_)
        · replace hv := hv.2 w10
          refine a_iconst (v := 0) eX8_worked_122 (by decide) ?_
          obtain ⟨h11, hv⟩ := hv
          refine a_iast eX8_worked_123 sA116 kA116 h11 ?_
          refine a_goto (tgt := 157) eX8_worked_124 (by decide) ?_
          refine a_iinc (v := 1) (vs' := [some (.ref (G.1 100)), some (.int v1), some (.int v2), some (.int (v3 + 1)), some (.int (M 101 (ix (((84 + (200 * v1)) + 4) + (2 * v3))))), some (.int (M 101 (ix ((((84 + (200 * v1)) + 4) + (2 * v3)) + 1))))]) eX8_worked_157 rfl rfl (by decide) rfl ?_
          refine a_goto (tgt := 4) eX8_worked_160 (by decide) ?_
          exact a_weak [true, true, true, true, false, false] rfl rfl hv
        · replace hv := hv.1 w10
          refine a_iconst (v := 1) eX8_worked_118 (by decide) ?_
          refine a_goto (tgt := 123) eX8_worked_119 (by decide) ?_
          obtain ⟨h12, hv⟩ := hv
          refine a_iast eX8_worked_123 sA116 kA116 h12 ?_
          refine a_goto (tgt := 157) eX8_worked_124 (by decide) ?_
          refine a_iinc (v := 1) (vs' := [some (.ref (G.1 100)), some (.int v1), some (.int v2), some (.int (v3 + 1)), some (.int (M 101 (ix (((84 + (200 * v1)) + 4) + (2 * v3))))), some (.int (M 101 (ix ((((84 + (200 * v1)) + 4) + (2 * v3)) + 1))))]) eX8_worked_157 rfl rfl (by decide) rfl ?_
          refine a_goto (tgt := 4) eX8_worked_160 (by decide) ?_
          exact a_weak [true, true, true, true, false, false] rfl rfl hv
    · replace hv := hv.2 w5
      refine a_aload_n eX8_worked_64 rfl ?_
      refine gX8_27 eX8_worked_65 fl_X8_55 ?_
      refine a_iload_n eX8_worked_68 rfl ?_
      refine a_iload eX8_worked_69 rfl ?_
      refine a_if_ne (tgt := 79) eX8_worked_71 (by decide) (fun w13 => ?_) (fun w13 => ?_)
      · replace hv := hv.2 w13
        refine a_aload_n eX8_worked_79 rfl ?_
        refine gX8_26 eX8_worked_80 fl_X8_52 ?_
        refine a_iload eX8_worked_83 rfl ?_
        obtain ⟨h14, hv⟩ := hv
        refine a_iald eX8_worked_85 sA115 kA115 h14 ?_
        obtain ⟨h15, hv⟩ := hv
        refine a_iast eX8_worked_86 sA116 kA116 h15 ?_
        refine a_nm (fun M16 eM16 => ?_)
        replace hv := hv M16 eM16
        refine a_iinc (v := 1) (vs' := [some (.ref (G.1 100)), some (.int v1), some (.int (v2 + 1)), some (.int v3), some (.int (M 101 (ix (((84 + (200 * v1)) + 4) + (2 * v3))))), some (.int (M 101 (ix ((((84 + (200 * v1)) + 4) + (2 * v3)) + 1))))]) eX8_worked_87 rfl rfl (by decide) rfl ?_
        refine a_goto (tgt := 157) eX8_worked_90 (by decide) ?_
        refine a_iinc (v := 1) (vs' := [some (.ref (G.1 100)), some (.int v1), some (.int (v2 + 1)), some (.int (v3 + 1)), some (.int (M 101 (ix (((84 + (200 * v1)) + 4) + (2 * v3))))), some (.int (M 101 (ix ((((84 + (200 * v1)) + 4) + (2 * v3)) + 1))))]) eX8_worked_157 rfl rfl (by decide) rfl ?_
        refine a_goto (tgt := 4) eX8_worked_160 (by decide) ?_
        exact a_weak [true, true, true, true, false, false] rfl rfl hv
      · replace hv := hv.1 w13
        refine a_iload eX8_worked_74 rfl ?_
        refine a_goto (tgt := 86) eX8_worked_76 (by decide) ?_
        obtain ⟨h17, hv⟩ := hv
        refine a_iast eX8_worked_86 sA116 kA116 h17 ?_
        refine a_nm (fun M18 eM18 => ?_)
        replace hv := hv M18 eM18
        refine a_iinc (v := 1) (vs' := [some (.ref (G.1 100)), some (.int v1), some (.int (v2 + 1)), some (.int v3), some (.int (M 101 (ix (((84 + (200 * v1)) + 4) + (2 * v3))))), some (.int (M 101 (ix ((((84 + (200 * v1)) + 4) + (2 * v3)) + 1))))]) eX8_worked_87 rfl rfl (by decide) rfl ?_
        refine a_goto (tgt := 157) eX8_worked_90 (by decide) ?_
        refine a_iinc (v := 1) (vs' := [some (.ref (G.1 100)), some (.int v1), some (.int (v2 + 1)), some (.int (v3 + 1)), some (.int (M 101 (ix (((84 + (200 * v1)) + 4) + (2 * v3))))), some (.int (M 101 (ix ((((84 + (200 * v1)) + 4) + (2 * v3)) + 1))))]) eX8_worked_157 rfl rfl (by decide) rfl ?_
        refine a_goto (tgt := 4) eX8_worked_160 (by decide) ?_
        exact a_weak [true, true, true, true, false, false] rfl rfl hv
theorem bX8_worked_156 {l : Launch} {G : GT} {d : Nat} {M : Mem} {R : Option Value → Mem → Prop} {v1 : Int32} {v2 : Int32} {v3 : Int32} {r : Int32} {t1 : Int32} (hv : vp_in t1 100 ∧ At l G (d + 4) mX8_worked 4 [some (.ref (G.1 100)), some (.int v1), some (.int v2), some (.int (v3 + 1)), none, none] [] (um M 116 (ix t1) r) R) : At l G (d + 4) mX8_worked 156 [some (.ref (G.1 100)), some (.int v1), some (.int v2), some (.int v3), none, none] [.int r, .int t1, .ref (G.1 116)] M R := by
  obtain ⟨h1, hv⟩ := hv
  refine a_iast eX8_worked_156 sA116 kA116 h1 ?_
  refine a_iinc (v := 1) (vs' := [some (.ref (G.1 100)), some (.int v1), some (.int v2), some (.int (v3 + 1)), none, none]) eX8_worked_157 rfl rfl (by decide) rfl ?_
  refine a_goto (tgt := 4) eX8_worked_160 (by decide) ?_
  exact a_weak [true, true, true, true, false, false] rfl rfl hv
theorem tX8_sheet {l : Launch} {G : GT} {d : Nat} {M : Mem} {R : Option Value → Mem → Prop} {v1 : Int32} {v2 : Int32} {v3 : Int32} (hv : (0 ≤ v1 → (v1 ≤ 3 → ((-1) ≤ v2 → (v2 ≤ 1 → (v2 < 0 → (v2 < 0 → vp_in v1 4 ∧ (0 ≤ v2 → vp_in v1 4 ∧ At l G (d + 4) mX8_sheet 69 [some (.ref (G.1 100)), some (.int v1), none, none, some (.int 0)] [] (um (um M 104 (ix v1) v2) 105 (ix v1) v3) R) ∧ (¬ (0 ≤ v2) → vp_in v1 4 ∧ At l G (d + 4) mX8_sheet 69 [some (.ref (G.1 100)), some (.int v1), none, none, some (.int 0)] [] (um (um M 104 (ix v1) v2) 105 (ix v1) 0) R)) ∧ (¬ (v2 < 0) → (0 ≤ v3 → vp_in v1 4 ∧ (0 ≤ v2 → vp_in v1 4 ∧ At l G (d + 4) mX8_sheet 69 [some (.ref (G.1 100)), some (.int v1), none, none, some (.int 0)] [] (um (um M 104 (ix v1) v2) 105 (ix v1) v3) R) ∧ (¬ (0 ≤ v2) → vp_in v1 4 ∧ At l G (d + 4) mX8_sheet 69 [some (.ref (G.1 100)), some (.int v1), none, none, some (.int 0)] [] (um (um M 104 (ix v1) v2) 105 (ix v1) 0) R)) ∧ (¬ (0 ≤ v3) → R (some (.int (-1000000014))) M))) ∧ (¬ (v2 < 0) → (v3 ≤ 24 → (v2 < 0 → vp_in v1 4 ∧ (0 ≤ v2 → vp_in v1 4 ∧ At l G (d + 4) mX8_sheet 69 [some (.ref (G.1 100)), some (.int v1), none, none, some (.int 0)] [] (um (um M 104 (ix v1) v2) 105 (ix v1) v3) R) ∧ (¬ (0 ≤ v2) → vp_in v1 4 ∧ At l G (d + 4) mX8_sheet 69 [some (.ref (G.1 100)), some (.int v1), none, none, some (.int 0)] [] (um (um M 104 (ix v1) v2) 105 (ix v1) 0) R)) ∧ (¬ (v2 < 0) → (0 ≤ v3 → vp_in v1 4 ∧ (0 ≤ v2 → vp_in v1 4 ∧ At l G (d + 4) mX8_sheet 69 [some (.ref (G.1 100)), some (.int v1), none, none, some (.int 0)] [] (um (um M 104 (ix v1) v2) 105 (ix v1) v3) R) ∧ (¬ (0 ≤ v2) → vp_in v1 4 ∧ At l G (d + 4) mX8_sheet 69 [some (.ref (G.1 100)), some (.int v1), none, none, some (.int 0)] [] (um (um M 104 (ix v1) v2) 105 (ix v1) 0) R)) ∧ (¬ (0 ≤ v3) → R (some (.int (-1000000014))) M))) ∧ (¬ (v3 ≤ 24) → R (some (.int (-1000000001))) M))) ∧ (¬ (v2 ≤ 1) → R (some (.int (-1000000001))) M)) ∧ (¬ ((-1) ≤ v2) → R (some (.int (-1000000001))) M)) ∧ (¬ (v1 ≤ 3) → R (some (.int (-1000000001))) M)) ∧ (¬ (0 ≤ v1) → R (some (.int (-1000000001))) M)) : Tr l G (d + 4) mX8_sheet [.ref (G.1 100), .int v1, .int v2, .int v3] M R := by
  refine Tr.of rfl (Nat.le_of_ble_eq_true rfl) (vs := [some (.ref (G.1 100)), some (.int v1), some (.int v2), some (.int v3), none]) rfl ?_
  refine a_iload_n eX8_sheet_0 rfl ?_
  refine qX8_330 rfl eX8_sheet_1 (Nat.le_of_ble_eq_true rfl) ?_
  refine Tr.of rfl (Nat.le_of_ble_eq_true rfl) (vs := [some (.int v1)]) rfl ?_
  refine a_iload_n eX8_isSheet_0 rfl ?_
  refine a_i2l eX8_isSheet_1 ?_
  refine a_lconsti 0 eX8_isSheet_2 (by decide) ?_
  refine a_ldc2i 3 eX8_isSheet_3 kl_X8_157 (by decide) ?_
  refine qX8_68 rfl eX8_isSheet_6 (Nat.le_of_ble_eq_true rfl) ?_
  refine in_isIn (v := v1) (lo := 0) (hi := 3) ⟨fun w25 => ⟨fun w26 => ret_i ?_, fun w26 => ret_i ?_⟩, fun w25 => ret_i ?_⟩
  · replace hv := (hv.1 w25).1 w26
    refine a_iret eX8_isSheet_9 rfl rfl (ret_i ?_)
    refine a_if_eq (tgt := 29) eX8_sheet_4 (by decide) (fun h => absurd h (by decide)) (fun _ => ?_)
    refine a_iload_n eX8_sheet_7 rfl ?_
    refine a_i2l eX8_sheet_8 ?_
    refine a_ldc2i (-1) eX8_sheet_9 kl_X8_333 (by decide) ?_
    refine a_lconsti 1 eX8_sheet_12 (by decide) ?_
    refine qX8_68 rfl eX8_sheet_13 (Nat.le_of_ble_eq_true rfl) ?_
    refine in_isIn (v := v2) (lo := (-1)) (hi := 1) ⟨fun w23 => ⟨fun w24 => ret_i ?_, fun w24 => ret_i ?_⟩, fun w23 => ret_i ?_⟩
    · replace hv := (hv.1 w23).1 w24
      refine a_if_eq (tgt := 29) eX8_sheet_16 (by decide) (fun h => absurd h (by decide)) (fun _ => ?_)
      refine a_iload_n eX8_sheet_19 rfl ?_
      refine a_if_lt (tgt := 32) eX8_sheet_20 (by decide) (fun w1 => ?_) (fun w1 => ?_)
      · replace hv := hv.1 w1
        refine a_iload_n eX8_sheet_32 rfl ?_
        refine a_if_lt (tgt := 44) eX8_sheet_33 (by decide) (fun w2 => ?_) (fun w2 => ?_)
        · replace hv := hv.1 w2
          refine a_aload_n eX8_sheet_44 rfl ?_
          refine gX8_4 eX8_sheet_45 fl_X8_19 ?_
          refine a_iload_n eX8_sheet_48 rfl ?_
          refine a_iload_n eX8_sheet_49 rfl ?_
          obtain ⟨h3, hv⟩ := hv
          refine a_iast eX8_sheet_50 sA104 kA104 h3 ?_
          refine a_aload_n eX8_sheet_51 rfl ?_
          refine gX8_5 eX8_sheet_52 fl_X8_22 ?_
          refine a_iload_n eX8_sheet_55 rfl ?_
          refine a_iload_n eX8_sheet_56 rfl ?_
          refine a_if_ge (tgt := 64) eX8_sheet_57 (by decide) (fun w4 => ?_) (fun w4 => ?_)
          · replace hv := hv.1 w4
            refine a_iload_n eX8_sheet_64 rfl ?_
            obtain ⟨h5, hv⟩ := hv
            refine a_iast eX8_sheet_65 sA105 kA105 h5 ?_
            refine a_iconst (v := 0) eX8_sheet_66 (by decide) ?_
            refine a_istore (vs' := [some (.ref (G.1 100)), some (.int v1), some (.int v2), some (.int v3), some (.int 0)]) eX8_sheet_67 rfl (Nat.le_of_ble_eq_true rfl) rfl ?_
            exact a_weak [true, true, false, false, true] rfl rfl hv
          · replace hv := hv.2 w4
            refine a_iconst (v := 0) eX8_sheet_60 (by decide) ?_
            refine a_goto (tgt := 65) eX8_sheet_61 (by decide) ?_
            obtain ⟨h6, hv⟩ := hv
            refine a_iast eX8_sheet_65 sA105 kA105 h6 ?_
            refine a_iconst (v := 0) eX8_sheet_66 (by decide) ?_
            refine a_istore (vs' := [some (.ref (G.1 100)), some (.int v1), some (.int v2), some (.int v3), some (.int 0)]) eX8_sheet_67 rfl (Nat.le_of_ble_eq_true rfl) rfl ?_
            exact a_weak [true, true, false, false, true] rfl rfl hv
        · replace hv := hv.2 w2
          refine a_iload_n eX8_sheet_36 rfl ?_
          refine a_if_ge (tgt := 44) eX8_sheet_37 (by decide) (fun w7 => ?_) (fun w7 => ?_)
          · replace hv := hv.1 w7
            refine a_aload_n eX8_sheet_44 rfl ?_
            refine gX8_4 eX8_sheet_45 fl_X8_19 ?_
            refine a_iload_n eX8_sheet_48 rfl ?_
            refine a_iload_n eX8_sheet_49 rfl ?_
            obtain ⟨h8, hv⟩ := hv
            refine a_iast eX8_sheet_50 sA104 kA104 h8 ?_
            refine a_aload_n eX8_sheet_51 rfl ?_
            refine gX8_5 eX8_sheet_52 fl_X8_22 ?_
            refine a_iload_n eX8_sheet_55 rfl ?_
            refine a_iload_n eX8_sheet_56 rfl ?_
            refine a_if_ge (tgt := 64) eX8_sheet_57 (by decide) (fun w9 => ?_) (fun w9 => ?_)
            · replace hv := hv.1 w9
              refine a_iload_n eX8_sheet_64 rfl ?_
              obtain ⟨h10, hv⟩ := hv
              refine a_iast eX8_sheet_65 sA105 kA105 h10 ?_
              refine a_iconst (v := 0) eX8_sheet_66 (by decide) ?_
              refine a_istore (vs' := [some (.ref (G.1 100)), some (.int v1), some (.int v2), some (.int v3), some (.int 0)]) eX8_sheet_67 rfl (Nat.le_of_ble_eq_true rfl) rfl ?_
              exact a_weak [true, true, false, false, true] rfl rfl hv
            · replace hv := hv.2 w9
              refine a_iconst (v := 0) eX8_sheet_60 (by decide) ?_
              refine a_goto (tgt := 65) eX8_sheet_61 (by decide) ?_
              obtain ⟨h11, hv⟩ := hv
              refine a_iast eX8_sheet_65 sA105 kA105 h11 ?_
              refine a_iconst (v := 0) eX8_sheet_66 (by decide) ?_
              refine a_istore (vs' := [some (.ref (G.1 100)), some (.int v1), some (.int v2), some (.int v3), some (.int 0)]) eX8_sheet_67 rfl (Nat.le_of_ble_eq_true rfl) rfl ?_
              exact a_weak [true, true, false, false, true] rfl rfl hv
          · replace hv := hv.2 w7
            refine a_ldcw eX8_sheet_40 kc_X8_335 ?_
            exact a_iret eX8_sheet_43 rfl rfl hv
      · replace hv := hv.2 w1
        refine a_iload_n eX8_sheet_23 rfl ?_
        refine a_bipush (v := 24) eX8_sheet_24 (by decide) ?_
        refine a_icmp_le (tgt := 32) eX8_sheet_26 (by decide) (fun w12 => ?_) (fun w12 => ?_)
        · replace hv := hv.1 w12
          refine a_iload_n eX8_sheet_32 rfl ?_
          refine a_if_lt (tgt := 44) eX8_sheet_33 (by decide) (fun w13 => ?_) (fun w13 => ?_)
          · replace hv := hv.1 w13
            refine a_aload_n eX8_sheet_44 rfl ?_
            refine gX8_4 eX8_sheet_45 fl_X8_19 ?_
            refine a_iload_n eX8_sheet_48 rfl ?_
            refine a_iload_n eX8_sheet_49 rfl ?_
            obtain ⟨h14, hv⟩ := hv
            refine a_iast eX8_sheet_50 sA104 kA104 h14 ?_
            refine a_aload_n eX8_sheet_51 rfl ?_
            refine gX8_5 eX8_sheet_52 fl_X8_22 ?_
            refine a_iload_n eX8_sheet_55 rfl ?_
            refine a_iload_n eX8_sheet_56 rfl ?_
            refine a_if_ge (tgt := 64) eX8_sheet_57 (by decide) (fun w15 => ?_) (fun w15 => ?_)
            · replace hv := hv.1 w15
              refine a_iload_n eX8_sheet_64 rfl ?_
              obtain ⟨h16, hv⟩ := hv
              refine a_iast eX8_sheet_65 sA105 kA105 h16 ?_
              refine a_iconst (v := 0) eX8_sheet_66 (by decide) ?_
              refine a_istore (vs' := [some (.ref (G.1 100)), some (.int v1), some (.int v2), some (.int v3), some (.int 0)]) eX8_sheet_67 rfl (Nat.le_of_ble_eq_true rfl) rfl ?_
              exact a_weak [true, true, false, false, true] rfl rfl hv
            · replace hv := hv.2 w15
              refine a_iconst (v := 0) eX8_sheet_60 (by decide) ?_
              refine a_goto (tgt := 65) eX8_sheet_61 (by decide) ?_
              obtain ⟨h17, hv⟩ := hv
              refine a_iast eX8_sheet_65 sA105 kA105 h17 ?_
              refine a_iconst (v := 0) eX8_sheet_66 (by decide) ?_
              refine a_istore (vs' := [some (.ref (G.1 100)), some (.int v1), some (.int v2), some (.int v3), some (.int 0)]) eX8_sheet_67 rfl (Nat.le_of_ble_eq_true rfl) rfl ?_
              exact a_weak [true, true, false, false, true] rfl rfl hv
          · replace hv := hv.2 w13
            refine a_iload_n eX8_sheet_36 rfl ?_
            refine a_if_ge (tgt := 44) eX8_sheet_37 (by decide) (fun w18 => ?_) (fun w18 => ?_)
            · replace hv := hv.1 w18
              refine a_aload_n eX8_sheet_44 rfl ?_
              refine gX8_4 eX8_sheet_45 fl_X8_19 ?_
              refine a_iload_n eX8_sheet_48 rfl ?_
              refine a_iload_n eX8_sheet_49 rfl ?_
              obtain ⟨h19, hv⟩ := hv
              refine a_iast eX8_sheet_50 sA104 kA104 h19 ?_
              refine a_aload_n eX8_sheet_51 rfl ?_
              refine gX8_5 eX8_sheet_52 fl_X8_22 ?_
              refine a_iload_n eX8_sheet_55 rfl ?_
              refine a_iload_n eX8_sheet_56 rfl ?_
              refine a_if_ge (tgt := 64) eX8_sheet_57 (by decide) (fun w20 => ?_) (fun w20 => ?_)
              · replace hv := hv.1 w20
                refine a_iload_n eX8_sheet_64 rfl ?_
                obtain ⟨h21, hv⟩ := hv
                refine a_iast eX8_sheet_65 sA105 kA105 h21 ?_
                refine a_iconst (v := 0) eX8_sheet_66 (by decide) ?_
                refine a_istore (vs' := [some (.ref (G.1 100)), some (.int v1), some (.int v2), some (.int v3), some (.int 0)]) eX8_sheet_67 rfl (Nat.le_of_ble_eq_true rfl) rfl ?_
                exact a_weak [true, true, false, false, true] rfl rfl hv
              · replace hv := hv.2 w20
                refine a_iconst (v := 0) eX8_sheet_60 (by decide) ?_
                refine a_goto (tgt := 65) eX8_sheet_61 (by decide) ?_
                obtain ⟨h22, hv⟩ := hv
                refine a_iast eX8_sheet_65 sA105 kA105 h22 ?_
                refine a_iconst (v := 0) eX8_sheet_66 (by decide) ?_
                refine a_istore (vs' := [some (.ref (G.1 100)), some (.int v1), some (.int v2), some (.int v3), some (.int 0)]) eX8_sheet_67 rfl (Nat.le_of_ble_eq_true rfl) rfl ?_
                exact a_weak [true, true, false, false, true] rfl rfl hv
            · replace hv := hv.2 w18
              refine a_ldcw eX8_sheet_40 kc_X8_335 ?_
              exact a_iret eX8_sheet_43 rfl rfl hv
        · replace hv := hv.2 w12
          refine a_ldc eX8_sheet_29 kc_X8_117 ?_
          exact a_iret eX8_sheet_31 rfl rfl hv
    · replace hv := (hv.1 w23).2 w24
      refine a_if_eq (tgt := 29) eX8_sheet_16 (by decide) (fun _ => ?_) (fun h => absurd h (by decide))
      refine a_ldc eX8_sheet_29 kc_X8_117 ?_
      exact a_iret eX8_sheet_31 rfl rfl hv
    · replace hv := hv.2 w23
      refine a_if_eq (tgt := 29) eX8_sheet_16 (by decide) (fun _ => ?_) (fun h => absurd h (by decide))
      refine a_ldc eX8_sheet_29 kc_X8_117 ?_
      exact a_iret eX8_sheet_31 rfl rfl hv
  · replace hv := (hv.1 w25).2 w26
    refine a_iret eX8_isSheet_9 rfl rfl (ret_i ?_)
    refine a_if_eq (tgt := 29) eX8_sheet_4 (by decide) (fun _ => ?_) (fun h => absurd h (by decide))
    refine a_ldc eX8_sheet_29 kc_X8_117 ?_
    exact a_iret eX8_sheet_31 rfl rfl hv
  · replace hv := hv.2 w25
    refine a_iret eX8_isSheet_9 rfl rfl (ret_i ?_)
    refine a_if_eq (tgt := 29) eX8_sheet_4 (by decide) (fun _ => ?_) (fun h => absurd h (by decide))
    refine a_ldc eX8_sheet_29 kc_X8_117 ?_
    exact a_iret eX8_sheet_31 rfl rfl hv
theorem bX8_sheet_69 {l : Launch} {G : GT} {d : Nat} {M : Mem} {R : Option Value → Mem → Prop} {v1 : Int32} {v4 : Int32} (hv : (24 ≤ v4 → vp_in v1 4 ∧ R (some (.int (M 105 (ix v1)))) M) ∧ (¬ (24 ≤ v4) → vp_in ((24 * v1) + v4) 96 ∧ At l G (d + 4) mX8_sheet 69 [some (.ref (G.1 100)), some (.int v1), none, none, some (.int (v4 + 1))] [] (um M 106 (ix ((24 * v1) + v4)) 0) R)) : At l G (d + 4) mX8_sheet 69 [some (.ref (G.1 100)), some (.int v1), none, none, some (.int v4)] [] M R := by
  refine a_iload eX8_sheet_69 rfl ?_
  refine a_bipush (v := 24) eX8_sheet_71 (by decide) ?_
  refine a_icmp_ge (tgt := 95) eX8_sheet_73 (by decide) (fun w1 => ?_) (fun w1 => ?_)
  · replace hv := hv.1 w1
    refine a_aload_n eX8_sheet_95 rfl ?_
    refine gX8_5 eX8_sheet_96 fl_X8_22 ?_
    refine a_iload_n eX8_sheet_99 rfl ?_
    obtain ⟨h2, hv⟩ := hv
    refine a_iald eX8_sheet_100 sA105 kA105 h2 ?_
    exact a_iret eX8_sheet_101 rfl rfl hv
  · replace hv := hv.2 w1
    refine a_aload_n eX8_sheet_76 rfl ?_
    refine gX8_6 eX8_sheet_77 fl_X8_25 ?_
    refine a_bipush (v := 24) eX8_sheet_80 (by decide) ?_
    refine a_iload_n eX8_sheet_82 rfl ?_
    refine a_imul eX8_sheet_83 ?_
    refine a_iload eX8_sheet_84 rfl ?_
    refine a_iadd eX8_sheet_86 ?_
    refine a_iconst (v := 0) eX8_sheet_87 (by decide) ?_
    obtain ⟨h3, hv⟩ := hv
    refine a_iast eX8_sheet_88 sA106 kA106 h3 ?_
    refine a_iinc (v := 1) (vs' := [some (.ref (G.1 100)), some (.int v1), none, none, some (.int (v4 + 1))]) eX8_sheet_89 rfl rfl (by decide) rfl ?_
    refine a_goto (tgt := 69) eX8_sheet_92 (by decide) ?_
    exact a_weak [true, true, false, false, true] rfl rfl hv
theorem tX8_mark {l : Launch} {G : GT} {d : Nat} {M : Mem} {R : Option Value → Mem → Prop} {v1 : Int32} {v2 : Int32} {v3 : Int32} (hv : (0 ≤ v1 → (v1 ≤ 3 → vp_in v1 4 ∧ (0 ≤ (M 104 (ix v1)) → vp_in v1 4 ∧ (0 ≤ v2 → (v2 ≤ ((M 105 (ix v1)) - 1) → vp_in v1 4 ∧ ((M 104 (ix v1)) = 0 → (v3 = (-1000000005) → R (some (.int (-1000000012))) M) ∧ (¬ (v3 = (-1000000005)) → vp_in v1 4 ∧ ((M 104 (ix v1)) = 1 → (v3 = (-1000000005) → vp_in v1 4 ∧ ((M 104 (ix v1)) = 0 → vp_in ((24 * v1) + v2) 96 ∧ ∀ M39 : Mem, M39 = um M 106 (ix ((24 * v1) + v2)) ((v3 <<< (16 &&& 31)) >>> (16 &&& 31)) → R (some (.int 1)) M39) ∧ (¬ ((M 104 (ix v1)) = 0) → vp_in ((24 * v1) + v2) 96 ∧ R (some (.int 1)) (um M 106 (ix ((24 * v1) + v2)) v3))) ∧ (¬ (v3 = (-1000000005)) → ((-99999) ≤ v3 → (v3 ≤ 99999 → vp_in v1 4 ∧ ((M 104 (ix v1)) = 0 → vp_in ((24 * v1) + v2) 96 ∧ ∀ M44 : Mem, M44 = um M 106 (ix ((24 * v1) + v2)) ((v3 <<< (16 &&& 31)) >>> (16 &&& 31)) → R (some (.int 1)) M44) ∧ (¬ ((M 104 (ix v1)) = 0) → vp_in ((24 * v1) + v2) 96 ∧ R (some (.int 1)) (um M 106 (ix ((24 * v1) + v2)) v3))) ∧ (¬ (v3 ≤ 99999) → R (some (.int (-1000000001))) M)) ∧ (¬ ((-99999) ≤ v3) → R (some (.int (-1000000001))) M))) ∧ (¬ ((M 104 (ix v1)) = 1) → vp_in v1 4 ∧ ((M 104 (ix v1)) = 0 → vp_in ((24 * v1) + v2) 96 ∧ ∀ M33 : Mem, M33 = um M 106 (ix ((24 * v1) + v2)) ((v3 <<< (16 &&& 31)) >>> (16 &&& 31)) → R (some (.int 1)) M33) ∧ (¬ ((M 104 (ix v1)) = 0) → vp_in ((24 * v1) + v2) 96 ∧ R (some (.int 1)) (um M 106 (ix ((24 * v1) + v2)) v3))))) ∧ (¬ ((M 104 (ix v1)) = 0) → vp_in v1 4 ∧ ((M 104 (ix v1)) = 1 → (v3 = (-1000000005) → vp_in v1 4 ∧ ((M 104 (ix v1)) = 0 → vp_in ((24 * v1) + v2) 96 ∧ ∀ M18 : Mem, M18 = um M 106 (ix ((24 * v1) + v2)) ((v3 <<< (16 &&& 31)) >>> (16 &&& 31)) → R (some (.int 1)) M18) ∧ (¬ ((M 104 (ix v1)) = 0) → vp_in ((24 * v1) + v2) 96 ∧ R (some (.int 1)) (um M 106 (ix ((24 * v1) + v2)) v3))) ∧ (¬ (v3 = (-1000000005)) → ((-99999) ≤ v3 → (v3 ≤ 99999 → vp_in v1 4 ∧ ((M 104 (ix v1)) = 0 → vp_in ((24 * v1) + v2) 96 ∧ ∀ M23 : Mem, M23 = um M 106 (ix ((24 * v1) + v2)) ((v3 <<< (16 &&& 31)) >>> (16 &&& 31)) → R (some (.int 1)) M23) ∧ (¬ ((M 104 (ix v1)) = 0) → vp_in ((24 * v1) + v2) 96 ∧ R (some (.int 1)) (um M 106 (ix ((24 * v1) + v2)) v3))) ∧ (¬ (v3 ≤ 99999) → R (some (.int (-1000000001))) M)) ∧ (¬ ((-99999) ≤ v3) → R (some (.int (-1000000001))) M))) ∧ (¬ ((M 104 (ix v1)) = 1) → vp_in v1 4 ∧ ((M 104 (ix v1)) = 0 → vp_in ((24 * v1) + v2) 96 ∧ ∀ M12 : Mem, M12 = um M 106 (ix ((24 * v1) + v2)) ((v3 <<< (16 &&& 31)) >>> (16 &&& 31)) → R (some (.int 1)) M12) ∧ (¬ ((M 104 (ix v1)) = 0) → vp_in ((24 * v1) + v2) 96 ∧ R (some (.int 1)) (um M 106 (ix ((24 * v1) + v2)) v3))))) ∧ (¬ (v2 ≤ ((M 105 (ix v1)) - 1)) → R (some (.int (-1000000013))) M)) ∧ (¬ (0 ≤ v2) → R (some (.int (-1000000013))) M)) ∧ (¬ (0 ≤ (M 104 (ix v1))) → R (some (.int (-1000000011))) M)) ∧ (¬ (v1 ≤ 3) → R (some (.int (-1000000001))) M)) ∧ (¬ (0 ≤ v1) → R (some (.int (-1000000001))) M)) : Tr l G (d + 4) mX8_mark [.ref (G.1 100), .int v1, .int v2, .int v3] M R := by
  refine Tr.of rfl (Nat.le_of_ble_eq_true rfl) (vs := [some (.ref (G.1 100)), some (.int v1), some (.int v2), some (.int v3)]) rfl ?_
  refine a_iload_n eX8_mark_0 rfl ?_
  refine qX8_330 rfl eX8_mark_1 (Nat.le_of_ble_eq_true rfl) ?_
  refine Tr.of rfl (Nat.le_of_ble_eq_true rfl) (vs := [some (.int v1)]) rfl ?_
  refine a_iload_n eX8_isSheet_0 rfl ?_
  refine a_i2l eX8_isSheet_1 ?_
  refine a_lconsti 0 eX8_isSheet_2 (by decide) ?_
  refine a_ldc2i 3 eX8_isSheet_3 kl_X8_157 (by decide) ?_
  refine qX8_68 rfl eX8_isSheet_6 (Nat.le_of_ble_eq_true rfl) ?_
  refine in_isIn (v := v1) (lo := 0) (hi := 3) ⟨fun w49 => ⟨fun w50 => ret_i ?_, fun w50 => ret_i ?_⟩, fun w49 => ret_i ?_⟩
  · replace hv := (hv.1 w49).1 w50
    refine a_iret eX8_isSheet_9 rfl rfl (ret_i ?_)
    refine a_if_ne (tgt := 10) eX8_mark_4 (by decide) (fun _ => ?_) (fun h => absurd h (by decide))
    refine a_aload_n eX8_mark_10 rfl ?_
    refine gX8_4 eX8_mark_11 fl_X8_19 ?_
    refine a_iload_n eX8_mark_14 rfl ?_
    obtain ⟨h1, hv⟩ := hv
    refine a_iald eX8_mark_15 sA104 kA104 h1 ?_
    refine a_if_ge (tgt := 23) eX8_mark_16 (by decide) (fun w2 => ?_) (fun w2 => ?_)
    · replace hv := hv.1 w2
      refine a_iload_n eX8_mark_23 rfl ?_
      refine a_i2l eX8_mark_24 ?_
      refine a_lconsti 0 eX8_mark_25 (by decide) ?_
      refine a_aload_n eX8_mark_26 rfl ?_
      refine gX8_5 eX8_mark_27 fl_X8_22 ?_
      refine a_iload_n eX8_mark_30 rfl ?_
      obtain ⟨h3, hv⟩ := hv
      refine a_iald eX8_mark_31 sA105 kA105 h3 ?_
      refine a_iconst (v := 1) eX8_mark_32 (by decide) ?_
      refine a_isub eX8_mark_33 ?_
      refine a_i2l eX8_mark_34 ?_
      refine qX8_68 rfl eX8_mark_35 (Nat.le_of_ble_eq_true rfl) ?_
      refine in_isIn (v := v2) (lo := 0) (hi := (M 105 (ix v1)) - 1) ⟨fun w47 => ⟨fun w48 => ret_i ?_, fun w48 => ret_i ?_⟩, fun w47 => ret_i ?_⟩
      · replace hv := (hv.1 w47).1 w48
        refine a_if_ne (tgt := 45) eX8_mark_38 (by decide) (fun _ => ?_) (fun h => absurd h (by decide))
        refine a_aload_n eX8_mark_45 rfl ?_
        refine gX8_4 eX8_mark_46 fl_X8_19 ?_
        refine a_iload_n eX8_mark_49 rfl ?_
        obtain ⟨h4, hv⟩ := hv
        refine a_iald eX8_mark_50 sA104 kA104 h4 ?_
        refine a_if_ne (tgt := 63) eX8_mark_51 (by decide) (fun w5 => ?_) (fun w5 => ?_)
        · replace hv := hv.2 w5
          refine a_aload_n eX8_mark_63 rfl ?_
          refine gX8_4 eX8_mark_64 fl_X8_19 ?_
          refine a_iload_n eX8_mark_67 rfl ?_
          obtain ⟨h6, hv⟩ := hv
          refine a_iald eX8_mark_68 sA104 kA104 h6 ?_
          refine a_iconst (v := 1) eX8_mark_69 (by decide) ?_
          refine a_icmp_ne (tgt := 96) eX8_mark_70 (by decide) (fun w7 => ?_) (fun w7 => ?_)
          · replace hv := hv.2 w7
            refine a_aload_n eX8_mark_96 rfl ?_
            refine gX8_6 eX8_mark_97 fl_X8_25 ?_
            refine a_bipush (v := 24) eX8_mark_100 (by decide) ?_
            refine a_iload_n eX8_mark_102 rfl ?_
            refine a_imul eX8_mark_103 ?_
            refine a_iload_n eX8_mark_104 rfl ?_
            refine a_iadd eX8_mark_105 ?_
            refine a_aload_n eX8_mark_106 rfl ?_
            refine gX8_4 eX8_mark_107 fl_X8_19 ?_
            refine a_iload_n eX8_mark_110 rfl ?_
            obtain ⟨h8, hv⟩ := hv
            refine a_iald eX8_mark_111 sA104 kA104 h8 ?_
            refine a_if_ne (tgt := 125) eX8_mark_112 (by decide) (fun w9 => ?_) (fun w9 => ?_)
            · replace hv := hv.2 w9
              refine a_iload_n eX8_mark_125 rfl ?_
              obtain ⟨h10, hv⟩ := hv
              refine a_iast eX8_mark_126 sA106 kA106 h10 ?_
              refine a_iconst (v := 1) eX8_mark_127 (by decide) ?_
              exact a_iret eX8_mark_128 rfl rfl hv
            · replace hv := hv.1 w9
              refine a_iload_n eX8_mark_115 rfl ?_
              refine a_bipush (v := 16) eX8_mark_116 (by decide) ?_
              refine a_ishl eX8_mark_118 ?_
              refine a_bipush (v := 16) eX8_mark_119 (by decide) ?_
              refine a_ishr eX8_mark_121 ?_
              refine a_goto (tgt := 126) eX8_mark_122 (by decide) ?_
              obtain ⟨h11, hv⟩ := hv
              refine a_iast eX8_mark_126 sA106 kA106 h11 ?_
              refine a_nm (fun M12 eM12 => ?_)
              replace hv := hv M12 eM12
              refine a_iconst (v := 1) eX8_mark_127 (by decide) ?_
              exact a_iret eX8_mark_128 rfl rfl hv
          · replace hv := hv.1 w7
            refine a_iload_n eX8_mark_73 rfl ?_
            refine a_ldc eX8_mark_74 kc_X8_67 ?_
            refine a_icmp_eq (tgt := 96) eX8_mark_76 (by decide) (fun w13 => ?_) (fun w13 => ?_)
            · replace hv := hv.1 w13
              refine a_aload_n eX8_mark_96 rfl ?_
              refine gX8_6 eX8_mark_97 fl_X8_25 ?_
              refine a_bipush (v := 24) eX8_mark_100 (by decide) ?_
              refine a_iload_n eX8_mark_102 rfl ?_
              refine a_imul eX8_mark_103 ?_
              refine a_iload_n eX8_mark_104 rfl ?_
              refine a_iadd eX8_mark_105 ?_
              refine a_aload_n eX8_mark_106 rfl ?_
              refine gX8_4 eX8_mark_107 fl_X8_19 ?_
              refine a_iload_n eX8_mark_110 rfl ?_
              obtain ⟨h14, hv⟩ := hv
              refine a_iald eX8_mark_111 sA104 kA104 h14 ?_
              refine a_if_ne (tgt := 125) eX8_mark_112 (by decide) (fun w15 => ?_) (fun w15 => ?_)
              · replace hv := hv.2 w15
                refine a_iload_n eX8_mark_125 rfl ?_
                obtain ⟨h16, hv⟩ := hv
                refine a_iast eX8_mark_126 sA106 kA106 h16 ?_
                refine a_iconst (v := 1) eX8_mark_127 (by decide) ?_
                exact a_iret eX8_mark_128 rfl rfl hv
              · replace hv := hv.1 w15
                refine a_iload_n eX8_mark_115 rfl ?_
                refine a_bipush (v := 16) eX8_mark_116 (by decide) ?_
                refine a_ishl eX8_mark_118 ?_
                refine a_bipush (v := 16) eX8_mark_119 (by decide) ?_
                refine a_ishr eX8_mark_121 ?_
                refine a_goto (tgt := 126) eX8_mark_122 (by decide) ?_
                obtain ⟨h17, hv⟩ := hv
                refine a_iast eX8_mark_126 sA106 kA106 h17 ?_
                refine a_nm (fun M18 eM18 => ?_)
                replace hv := hv M18 eM18
                refine a_iconst (v := 1) eX8_mark_127 (by decide) ?_
                exact a_iret eX8_mark_128 rfl rfl hv
            · replace hv := hv.2 w13
              refine a_iload_n eX8_mark_79 rfl ?_
              refine a_i2l eX8_mark_80 ?_
              refine a_ldc2i (-99999) eX8_mark_81 kl_X8_338 (by decide) ?_
              refine a_ldc2i 99999 eX8_mark_84 kl_X8_340 (by decide) ?_
              refine qX8_68 rfl eX8_mark_87 (Nat.le_of_ble_eq_true rfl) ?_
              refine in_isIn (v := v3) (lo := (-99999)) (hi := 99999) ⟨fun w24 => ⟨fun w25 => ret_i ?_, fun w25 => ret_i ?_⟩, fun w24 => ret_i ?_⟩
              · replace hv := (hv.1 w24).1 w25
                refine a_if_ne (tgt := 96) eX8_mark_90 (by decide) (fun _ => ?_) (fun h => absurd h (by decide))
                refine a_aload_n eX8_mark_96 rfl ?_
                refine gX8_6 eX8_mark_97 fl_X8_25 ?_
                refine a_bipush (v := 24) eX8_mark_100 (by decide) ?_
                refine a_iload_n eX8_mark_102 rfl ?_
                refine a_imul eX8_mark_103 ?_
                refine a_iload_n eX8_mark_104 rfl ?_
                refine a_iadd eX8_mark_105 ?_
                refine a_aload_n eX8_mark_106 rfl ?_
                refine gX8_4 eX8_mark_107 fl_X8_19 ?_
                refine a_iload_n eX8_mark_110 rfl ?_
                obtain ⟨h19, hv⟩ := hv
                refine a_iald eX8_mark_111 sA104 kA104 h19 ?_
                refine a_if_ne (tgt := 125) eX8_mark_112 (by decide) (fun w20 => ?_) (fun w20 => ?_)
                · replace hv := hv.2 w20
                  refine a_iload_n eX8_mark_125 rfl ?_
                  obtain ⟨h21, hv⟩ := hv
                  refine a_iast eX8_mark_126 sA106 kA106 h21 ?_
                  refine a_iconst (v := 1) eX8_mark_127 (by decide) ?_
                  exact a_iret eX8_mark_128 rfl rfl hv
                · replace hv := hv.1 w20
                  refine a_iload_n eX8_mark_115 rfl ?_
                  refine a_bipush (v := 16) eX8_mark_116 (by decide) ?_
                  refine a_ishl eX8_mark_118 ?_
                  refine a_bipush (v := 16) eX8_mark_119 (by decide) ?_
                  refine a_ishr eX8_mark_121 ?_
                  refine a_goto (tgt := 126) eX8_mark_122 (by decide) ?_
                  obtain ⟨h22, hv⟩ := hv
                  refine a_iast eX8_mark_126 sA106 kA106 h22 ?_
                  refine a_nm (fun M23 eM23 => ?_)
                  replace hv := hv M23 eM23
                  refine a_iconst (v := 1) eX8_mark_127 (by decide) ?_
                  exact a_iret eX8_mark_128 rfl rfl hv
              · replace hv := (hv.1 w24).2 w25
                refine a_if_ne (tgt := 96) eX8_mark_90 (by decide) (fun h => absurd h (by decide)) (fun _ => ?_)
                refine a_ldc eX8_mark_93 kc_X8_117 ?_
                exact a_iret eX8_mark_95 rfl rfl hv
              · replace hv := hv.2 w24
                refine a_if_ne (tgt := 96) eX8_mark_90 (by decide) (fun h => absurd h (by decide)) (fun _ => ?_)
                refine a_ldc eX8_mark_93 kc_X8_117 ?_
                exact a_iret eX8_mark_95 rfl rfl hv
        · replace hv := hv.1 w5
          refine a_iload_n eX8_mark_54 rfl ?_
          refine a_ldc eX8_mark_55 kc_X8_67 ?_
          refine a_icmp_ne (tgt := 63) eX8_mark_57 (by decide) (fun w26 => ?_) (fun w26 => ?_)
          · replace hv := hv.2 w26
            refine a_aload_n eX8_mark_63 rfl ?_
            refine gX8_4 eX8_mark_64 fl_X8_19 ?_
            refine a_iload_n eX8_mark_67 rfl ?_
            obtain ⟨h27, hv⟩ := hv
            refine a_iald eX8_mark_68 sA104 kA104 h27 ?_
            refine a_iconst (v := 1) eX8_mark_69 (by decide) ?_
            refine a_icmp_ne (tgt := 96) eX8_mark_70 (by decide) (fun w28 => ?_) (fun w28 => ?_)
            · replace hv := hv.2 w28
              refine a_aload_n eX8_mark_96 rfl ?_
              refine gX8_6 eX8_mark_97 fl_X8_25 ?_
              refine a_bipush (v := 24) eX8_mark_100 (by decide) ?_
              refine a_iload_n eX8_mark_102 rfl ?_
              refine a_imul eX8_mark_103 ?_
              refine a_iload_n eX8_mark_104 rfl ?_
              refine a_iadd eX8_mark_105 ?_
              refine a_aload_n eX8_mark_106 rfl ?_
              refine gX8_4 eX8_mark_107 fl_X8_19 ?_
              refine a_iload_n eX8_mark_110 rfl ?_
              obtain ⟨h29, hv⟩ := hv
              refine a_iald eX8_mark_111 sA104 kA104 h29 ?_
              refine a_if_ne (tgt := 125) eX8_mark_112 (by decide) (fun w30 => ?_) (fun w30 => ?_)
              · replace hv := hv.2 w30
                refine a_iload_n eX8_mark_125 rfl ?_
                obtain ⟨h31, hv⟩ := hv
                refine a_iast eX8_mark_126 sA106 kA106 h31 ?_
                refine a_iconst (v := 1) eX8_mark_127 (by decide) ?_
                exact a_iret eX8_mark_128 rfl rfl hv
              · replace hv := hv.1 w30
                refine a_iload_n eX8_mark_115 rfl ?_
                refine a_bipush (v := 16) eX8_mark_116 (by decide) ?_
                refine a_ishl eX8_mark_118 ?_
                refine a_bipush (v := 16) eX8_mark_119 (by decide) ?_
                refine a_ishr eX8_mark_121 ?_
                refine a_goto (tgt := 126) eX8_mark_122 (by decide) ?_
                obtain ⟨h32, hv⟩ := hv
                refine a_iast eX8_mark_126 sA106 kA106 h32 ?_
                refine a_nm (fun M33 eM33 => ?_)
                replace hv := hv M33 eM33
                refine a_iconst (v := 1) eX8_mark_127 (by decide) ?_
                exact a_iret eX8_mark_128 rfl rfl hv
            · replace hv := hv.1 w28
              refine a_iload_n eX8_mark_73 rfl ?_
              refine a_ldc eX8_mark_74 kc_X8_67 ?_
              refine a_icmp_eq (tgt := 96) eX8_mark_76 (by decide) (fun w34 => ?_) (fun w34 => ?_)
              · replace hv := hv.1 w34
                refine a_aload_n eX8_mark_96 rfl ?_
                refine gX8_6 eX8_mark_97 fl_X8_25 ?_
                refine a_bipush (v := 24) eX8_mark_100 (by decide) ?_
                refine a_iload_n eX8_mark_102 rfl ?_
                refine a_imul eX8_mark_103 ?_
                refine a_iload_n eX8_mark_104 rfl ?_
                refine a_iadd eX8_mark_105 ?_
                refine a_aload_n eX8_mark_106 rfl ?_
                refine gX8_4 eX8_mark_107 fl_X8_19 ?_
                refine a_iload_n eX8_mark_110 rfl ?_
                obtain ⟨h35, hv⟩ := hv
                refine a_iald eX8_mark_111 sA104 kA104 h35 ?_
                refine a_if_ne (tgt := 125) eX8_mark_112 (by decide) (fun w36 => ?_) (fun w36 => ?_)
                · replace hv := hv.2 w36
                  refine a_iload_n eX8_mark_125 rfl ?_
                  obtain ⟨h37, hv⟩ := hv
                  refine a_iast eX8_mark_126 sA106 kA106 h37 ?_
                  refine a_iconst (v := 1) eX8_mark_127 (by decide) ?_
                  exact a_iret eX8_mark_128 rfl rfl hv
                · replace hv := hv.1 w36
                  refine a_iload_n eX8_mark_115 rfl ?_
                  refine a_bipush (v := 16) eX8_mark_116 (by decide) ?_
                  refine a_ishl eX8_mark_118 ?_
                  refine a_bipush (v := 16) eX8_mark_119 (by decide) ?_
                  refine a_ishr eX8_mark_121 ?_
                  refine a_goto (tgt := 126) eX8_mark_122 (by decide) ?_
                  obtain ⟨h38, hv⟩ := hv
                  refine a_iast eX8_mark_126 sA106 kA106 h38 ?_
                  refine a_nm (fun M39 eM39 => ?_)
                  replace hv := hv M39 eM39
                  refine a_iconst (v := 1) eX8_mark_127 (by decide) ?_
                  exact a_iret eX8_mark_128 rfl rfl hv
              · replace hv := hv.2 w34
                refine a_iload_n eX8_mark_79 rfl ?_
                refine a_i2l eX8_mark_80 ?_
                refine a_ldc2i (-99999) eX8_mark_81 kl_X8_338 (by decide) ?_
                refine a_ldc2i 99999 eX8_mark_84 kl_X8_340 (by decide) ?_
                refine qX8_68 rfl eX8_mark_87 (Nat.le_of_ble_eq_true rfl) ?_
                refine in_isIn (v := v3) (lo := (-99999)) (hi := 99999) ⟨fun w45 => ⟨fun w46 => ret_i ?_, fun w46 => ret_i ?_⟩, fun w45 => ret_i ?_⟩
                · replace hv := (hv.1 w45).1 w46
                  refine a_if_ne (tgt := 96) eX8_mark_90 (by decide) (fun _ => ?_) (fun h => absurd h (by decide))
                  refine a_aload_n eX8_mark_96 rfl ?_
                  refine gX8_6 eX8_mark_97 fl_X8_25 ?_
                  refine a_bipush (v := 24) eX8_mark_100 (by decide) ?_
                  refine a_iload_n eX8_mark_102 rfl ?_
                  refine a_imul eX8_mark_103 ?_
                  refine a_iload_n eX8_mark_104 rfl ?_
                  refine a_iadd eX8_mark_105 ?_
                  refine a_aload_n eX8_mark_106 rfl ?_
                  refine gX8_4 eX8_mark_107 fl_X8_19 ?_
                  refine a_iload_n eX8_mark_110 rfl ?_
                  obtain ⟨h40, hv⟩ := hv
                  refine a_iald eX8_mark_111 sA104 kA104 h40 ?_
                  refine a_if_ne (tgt := 125) eX8_mark_112 (by decide) (fun w41 => ?_) (fun w41 => ?_)
                  · replace hv := hv.2 w41
                    refine a_iload_n eX8_mark_125 rfl ?_
                    obtain ⟨h42, hv⟩ := hv
                    refine a_iast eX8_mark_126 sA106 kA106 h42 ?_
                    refine a_iconst (v := 1) eX8_mark_127 (by decide) ?_
                    exact a_iret eX8_mark_128 rfl rfl hv
                  · replace hv := hv.1 w41
                    refine a_iload_n eX8_mark_115 rfl ?_
                    refine a_bipush (v := 16) eX8_mark_116 (by decide) ?_
                    refine a_ishl eX8_mark_118 ?_
                    refine a_bipush (v := 16) eX8_mark_119 (by decide) ?_
                    refine a_ishr eX8_mark_121 ?_
                    refine a_goto (tgt := 126) eX8_mark_122 (by decide) ?_
                    obtain ⟨h43, hv⟩ := hv
                    refine a_iast eX8_mark_126 sA106 kA106 h43 ?_
                    refine a_nm (fun M44 eM44 => ?_)
                    replace hv := hv M44 eM44
                    refine a_iconst (v := 1) eX8_mark_127 (by decide) ?_
                    exact a_iret eX8_mark_128 rfl rfl hv
                · replace hv := (hv.1 w45).2 w46
                  refine a_if_ne (tgt := 96) eX8_mark_90 (by decide) (fun h => absurd h (by decide)) (fun _ => ?_)
                  refine a_ldc eX8_mark_93 kc_X8_117 ?_
                  exact a_iret eX8_mark_95 rfl rfl hv
                · replace hv := hv.2 w45
                  refine a_if_ne (tgt := 96) eX8_mark_90 (by decide) (fun h => absurd h (by decide)) (fun _ => ?_)
                  refine a_ldc eX8_mark_93 kc_X8_117 ?_
                  exact a_iret eX8_mark_95 rfl rfl hv
          · replace hv := hv.1 w26
            refine a_ldc eX8_mark_60 kc_X8_140 ?_
            exact a_iret eX8_mark_62 rfl rfl hv
      · replace hv := (hv.1 w47).2 w48
        refine a_if_ne (tgt := 45) eX8_mark_38 (by decide) (fun h => absurd h (by decide)) (fun _ => ?_)
        refine a_ldcw eX8_mark_41 kc_X8_337 ?_
        exact a_iret eX8_mark_44 rfl rfl hv
      · replace hv := hv.2 w47
        refine a_if_ne (tgt := 45) eX8_mark_38 (by decide) (fun h => absurd h (by decide)) (fun _ => ?_)
        refine a_ldcw eX8_mark_41 kc_X8_337 ?_
        exact a_iret eX8_mark_44 rfl rfl hv
    · replace hv := hv.2 w2
      refine a_ldcw eX8_mark_19 kc_X8_336 ?_
      exact a_iret eX8_mark_22 rfl rfl hv
  · replace hv := (hv.1 w49).2 w50
    refine a_iret eX8_isSheet_9 rfl rfl (ret_i ?_)
    refine a_if_ne (tgt := 10) eX8_mark_4 (by decide) (fun h => absurd h (by decide)) (fun _ => ?_)
    refine a_ldc eX8_mark_7 kc_X8_117 ?_
    exact a_iret eX8_mark_9 rfl rfl hv
  · replace hv := hv.2 w49
    refine a_iret eX8_isSheet_9 rfl rfl (ret_i ?_)
    refine a_if_ne (tgt := 10) eX8_mark_4 (by decide) (fun h => absurd h (by decide)) (fun _ => ?_)
    refine a_ldc eX8_mark_7 kc_X8_117 ?_
    exact a_iret eX8_mark_9 rfl rfl hv
theorem tX8_pour {l : Launch} {G : GT} {d : Nat} {M : Mem} {R : Option Value → Mem → Prop} {v1 : Int32} (hv : (0 ≤ v1 → (v1 ≤ 3 → vp_in v1 4 ∧ (0 ≤ (M 104 (ix v1)) → At l G (d + 4) mX8_pour 27 [some (.ref (G.1 100)), some (.int v1), some (.int 0), some (.int 0), none, none] [] M R) ∧ (¬ (0 ≤ (M 104 (ix v1))) → R (some (.int (-1000000011))) M)) ∧ (¬ (v1 ≤ 3) → R (some (.int (-1000000001))) M)) ∧ (¬ (0 ≤ v1) → R (some (.int (-1000000001))) M)) : Tr l G (d + 4) mX8_pour [.ref (G.1 100), .int v1] M R := by
  refine Tr.of rfl (Nat.le_of_ble_eq_true rfl) (vs := [some (.ref (G.1 100)), some (.int v1), none, none, none, none]) rfl ?_
  refine a_iload_n eX8_pour_0 rfl ?_
  refine qX8_330 rfl eX8_pour_1 (Nat.le_of_ble_eq_true rfl) ?_
  refine Tr.of rfl (Nat.le_of_ble_eq_true rfl) (vs := [some (.int v1)]) rfl ?_
  refine a_iload_n eX8_isSheet_0 rfl ?_
  refine a_i2l eX8_isSheet_1 ?_
  refine a_lconsti 0 eX8_isSheet_2 (by decide) ?_
  refine a_ldc2i 3 eX8_isSheet_3 kl_X8_157 (by decide) ?_
  refine qX8_68 rfl eX8_isSheet_6 (Nat.le_of_ble_eq_true rfl) ?_
  refine in_isIn (v := v1) (lo := 0) (hi := 3) ⟨fun w3 => ⟨fun w4 => ret_i ?_, fun w4 => ret_i ?_⟩, fun w3 => ret_i ?_⟩
  · replace hv := (hv.1 w3).1 w4
    refine a_iret eX8_isSheet_9 rfl rfl (ret_i ?_)
    refine a_if_ne (tgt := 10) eX8_pour_4 (by decide) (fun _ => ?_) (fun h => absurd h (by decide))
    refine a_aload_n eX8_pour_10 rfl ?_
    refine gX8_4 eX8_pour_11 fl_X8_19 ?_
    refine a_iload_n eX8_pour_14 rfl ?_
    obtain ⟨h1, hv⟩ := hv
    refine a_iald eX8_pour_15 sA104 kA104 h1 ?_
    refine a_if_ge (tgt := 23) eX8_pour_16 (by decide) (fun w2 => ?_) (fun w2 => ?_)
    · replace hv := hv.1 w2
      refine a_iconst (v := 0) eX8_pour_23 (by decide) ?_
      refine a_istore_n (vs' := [some (.ref (G.1 100)), some (.int v1), some (.int 0), none, none, none]) eX8_pour_24 rfl (Nat.le_of_ble_eq_true rfl) rfl ?_
      refine a_iconst (v := 0) eX8_pour_25 (by decide) ?_
      refine a_istore_n (vs' := [some (.ref (G.1 100)), some (.int v1), some (.int 0), some (.int 0), none, none]) eX8_pour_26 rfl (Nat.le_of_ble_eq_true rfl) rfl ?_
      exact a_weak [true, true, true, true, false, false] rfl rfl hv
    · replace hv := hv.2 w2
      refine a_ldcw eX8_pour_19 kc_X8_336 ?_
      exact a_iret eX8_pour_22 rfl rfl hv
  · replace hv := (hv.1 w3).2 w4
    refine a_iret eX8_isSheet_9 rfl rfl (ret_i ?_)
    refine a_if_ne (tgt := 10) eX8_pour_4 (by decide) (fun h => absurd h (by decide)) (fun _ => ?_)
    refine a_ldc eX8_pour_7 kc_X8_117 ?_
    exact a_iret eX8_pour_9 rfl rfl hv
  · replace hv := hv.2 w3
    refine a_iret eX8_isSheet_9 rfl rfl (ret_i ?_)
    refine a_if_ne (tgt := 10) eX8_pour_4 (by decide) (fun h => absurd h (by decide)) (fun _ => ?_)
    refine a_ldc eX8_pour_7 kc_X8_117 ?_
    exact a_iret eX8_pour_9 rfl rfl hv
theorem bX8_pour_27 {l : Launch} {G : GT} {d : Nat} {M : Mem} {R : Option Value → Mem → Prop} {v1 : Int32} {v2 : Int32} {v3 : Int32} (hv : vp_in v1 4 ∧ ((M 105 (ix v1)) ≤ v3 → R (some (.int v2)) M) ∧ (¬ ((M 105 (ix v1)) ≤ v3) → ((M 101 0) ≤ v3 → R (some (.int v2)) M) ∧ (¬ ((M 101 0) ≤ v3) → vp_in ((24 * v1) + v3) 96 ∧ ((M 106 (ix ((24 * v1) + v3))) = (-1000000005) → vp_in ((10 + (4 * v3)) + 2) 3084 ∧ vp_in ((10 + (4 * v3)) + 2) 3084 ∧ vp_in ((10 + (4 * v3)) + 2) 3084 ∧ ∀ M21 : Mem, M21 = um M 101 (ix ((10 + (4 * v3)) + 2)) (M 101 (ix ((10 + (4 * v3)) + 2))) → ((M 101 (ix ((10 + (4 * v3)) + 2))) = (M 101 (ix ((10 + (4 * v3)) + 2))) → At l G (d + 4) mX8_pour 27 [some (.ref (G.1 100)), some (.int v1), some (.int (v2 + 0)), some (.int (v3 + 1)), none, none] [] M21 R) ∧ (¬ ((M 101 (ix ((10 + (4 * v3)) + 2))) = (M 101 (ix ((10 + (4 * v3)) + 2)))) → At l G (d + 4) mX8_pour 27 [some (.ref (G.1 100)), some (.int v1), some (.int (v2 + 1)), some (.int (v3 + 1)), none, none] [] M21 R)) ∧ (¬ ((M 106 (ix ((24 * v1) + v3))) = (-1000000005)) → (0 ≤ (M 106 (ix ((24 * v1) + v3))) → ((M 106 (ix ((24 * v1) + v3))) ≤ 99 → vp_in ((10 + (4 * v3)) + 2) 3084 ∧ vp_in ((10 + (4 * v3)) + 2) 3084 ∧ ∀ M10 : Mem, M10 = um M 101 (ix ((10 + (4 * v3)) + 2)) (M 106 (ix ((24 * v1) + v3))) → ((M 106 (ix ((24 * v1) + v3))) = (M 101 (ix ((10 + (4 * v3)) + 2))) → At l G (d + 4) mX8_pour 27 [some (.ref (G.1 100)), some (.int v1), some (.int (v2 + 0)), some (.int (v3 + 1)), none, none] [] M10 R) ∧ (¬ ((M 106 (ix ((24 * v1) + v3))) = (M 101 (ix ((10 + (4 * v3)) + 2)))) → At l G (d + 4) mX8_pour 27 [some (.ref (G.1 100)), some (.int v1), some (.int (v2 + 1)), some (.int (v3 + 1)), none, none] [] M10 R)) ∧ (¬ ((M 106 (ix ((24 * v1) + v3))) ≤ 99) → vp_in ((10 + (4 * v3)) + 2) 3084 ∧ vp_in ((10 + (4 * v3)) + 2) 3084 ∧ (99 = (M 101 (ix ((10 + (4 * v3)) + 2))) → At l G (d + 4) mX8_pour 27 [some (.ref (G.1 100)), some (.int v1), some (.int (v2 + 0)), some (.int (v3 + 1)), none, none] [] (um M 101 (ix ((10 + (4 * v3)) + 2)) 99) R) ∧ (¬ (99 = (M 101 (ix ((10 + (4 * v3)) + 2)))) → At l G (d + 4) mX8_pour 27 [some (.ref (G.1 100)), some (.int v1), some (.int (v2 + 1)), some (.int (v3 + 1)), none, none] [] (um M 101 (ix ((10 + (4 * v3)) + 2)) 99) R))) ∧ (¬ (0 ≤ (M 106 (ix ((24 * v1) + v3)))) → vp_in ((10 + (4 * v3)) + 2) 3084 ∧ vp_in ((10 + (4 * v3)) + 2) 3084 ∧ (0 = (M 101 (ix ((10 + (4 * v3)) + 2))) → At l G (d + 4) mX8_pour 27 [some (.ref (G.1 100)), some (.int v1), some (.int (v2 + 0)), some (.int (v3 + 1)), none, none] [] (um M 101 (ix ((10 + (4 * v3)) + 2)) 0) R) ∧ (¬ (0 = (M 101 (ix ((10 + (4 * v3)) + 2)))) → At l G (d + 4) mX8_pour 27 [some (.ref (G.1 100)), some (.int v1), some (.int (v2 + 1)), some (.int (v3 + 1)), none, none] [] (um M 101 (ix ((10 + (4 * v3)) + 2)) 0) R)))))) : At l G (d + 4) mX8_pour 27 [some (.ref (G.1 100)), some (.int v1), some (.int v2), some (.int v3), none, none] [] M R := by
  refine a_iload_n eX8_pour_27 rfl ?_
  refine a_aload_n eX8_pour_28 rfl ?_
  refine gX8_5 eX8_pour_29 fl_X8_22 ?_
  refine a_iload_n eX8_pour_32 rfl ?_
  obtain ⟨h1, hv⟩ := hv
  refine a_iald eX8_pour_33 sA105 kA105 h1 ?_
  refine a_icmp_ge (tgt := 125) eX8_pour_34 (by decide) (fun w2 => ?_) (fun w2 => ?_)
  · replace hv := hv.1 w2
    refine a_iload_n eX8_pour_125 rfl ?_
    exact a_iret eX8_pour_126 rfl rfl hv
  · replace hv := hv.2 w2
    refine a_iload_n eX8_pour_37 rfl ?_
    refine a_aload_n eX8_pour_38 rfl ?_
    refine gX8_0 eX8_pour_39 fl_X8_7 ?_
    refine a_iconst (v := 0) eX8_pour_42 (by decide) ?_
    refine a_ialdc 0 eX8_pour_43 sA101 kA101 (by decide) (by decide) ?_
    refine a_icmp_ge (tgt := 125) eX8_pour_44 (by decide) (fun w3 => ?_) (fun w3 => ?_)
    · replace hv := hv.1 w3
      refine a_iload_n eX8_pour_125 rfl ?_
      exact a_iret eX8_pour_126 rfl rfl hv
    · replace hv := hv.2 w3
      refine a_aload_n eX8_pour_47 rfl ?_
      refine gX8_6 eX8_pour_48 fl_X8_25 ?_
      refine a_bipush (v := 24) eX8_pour_51 (by decide) ?_
      refine a_iload_n eX8_pour_53 rfl ?_
      refine a_imul eX8_pour_54 ?_
      refine a_iload_n eX8_pour_55 rfl ?_
      refine a_iadd eX8_pour_56 ?_
      obtain ⟨h4, hv⟩ := hv
      refine a_iald eX8_pour_57 sA106 kA106 h4 ?_
      refine a_istore (vs' := [some (.ref (G.1 100)), some (.int v1), some (.int v2), some (.int v3), some (.int (M 106 (ix ((24 * v1) + v3)))), none]) eX8_pour_58 rfl (Nat.le_of_ble_eq_true rfl) rfl ?_
      refine a_iload eX8_pour_60 rfl ?_
      refine a_ldc eX8_pour_62 kc_X8_67 ?_
      refine a_icmp_ne (tgt := 83) eX8_pour_64 (by decide) (fun w5 => ?_) (fun w5 => ?_)
      · replace hv := hv.2 w5
        refine a_iload eX8_pour_83 rfl ?_
        refine a_bipush (v := 99) eX8_pour_85 (by decide) ?_
        refine qX8_99 rfl eX8_pour_87 (Nat.le_of_ble_eq_true rfl) ?_
        refine Tr.of rfl (Nat.le_of_ble_eq_true rfl) (vs := [some (.int (M 106 (ix ((24 * v1) + v3)))), some (.int 99)]) rfl ?_
        refine a_iload_n eX8_within_0 rfl ?_
        refine a_if_ge (tgt := 8) eX8_within_1 (by decide) (fun w6 => ?_) (fun w6 => ?_)
        · replace hv := hv.1 w6
          refine a_iload_n eX8_within_8 rfl ?_
          refine a_iload_n eX8_within_9 rfl ?_
          refine a_icmp_le (tgt := 17) eX8_within_10 (by decide) (fun w7 => ?_) (fun w7 => ?_)
          · replace hv := hv.1 w7
            refine a_iload_n eX8_within_17 rfl ?_
            refine a_iret eX8_within_18 rfl rfl (ret_i ?_)
            refine a_istore (vs' := [some (.ref (G.1 100)), some (.int v1), some (.int v2), some (.int v3), some (.int (M 106 (ix ((24 * v1) + v3)))), some (.int (M 106 (ix ((24 * v1) + v3))))]) eX8_pour_90 rfl (Nat.le_of_ble_eq_true rfl) rfl ?_
            refine a_iload_n eX8_pour_92 rfl ?_
            refine a_iload eX8_pour_93 rfl ?_
            refine a_aload_n eX8_pour_95 rfl ?_
            refine a_bipush (v := 10) eX8_pour_96 (by decide) ?_
            refine a_iconst (v := 4) eX8_pour_98 (by decide) ?_
            refine a_iload_n eX8_pour_99 rfl ?_
            refine a_imul eX8_pour_100 ?_
            refine a_iadd eX8_pour_101 ?_
            refine a_iconst (v := 2) eX8_pour_102 (by decide) ?_
            refine a_iadd eX8_pour_103 ?_
            refine a_iload eX8_pour_104 rfl ?_
            refine qX8_141 rfl eX8_pour_106 (Nat.le_of_ble_eq_true rfl) ?_
            refine Tr.of rfl (Nat.le_of_ble_eq_true rfl) (vs := [some (.ref (G.1 100)), some (.int ((10 + (4 * v3)) + 2)), some (.int (M 106 (ix ((24 * v1) + v3)))), none]) rfl ?_
            refine a_aload_n eX8_changes_0 rfl ?_
            refine gX8_0 eX8_changes_1 fl_X8_7 ?_
            refine a_iload_n eX8_changes_4 rfl ?_
            obtain ⟨h8, hv⟩ := hv
            refine a_iald eX8_changes_5 sA101 kA101 h8 ?_
            refine a_istore_n (vs' := [some (.ref (G.1 100)), some (.int ((10 + (4 * v3)) + 2)), some (.int (M 106 (ix ((24 * v1) + v3)))), some (.int (M 101 (ix ((10 + (4 * v3)) + 2))))]) eX8_changes_6 rfl (Nat.le_of_ble_eq_true rfl) rfl ?_
            refine a_aload_n eX8_changes_7 rfl ?_
            refine gX8_0 eX8_changes_8 fl_X8_7 ?_
            refine a_iload_n eX8_changes_11 rfl ?_
            refine a_iload_n eX8_changes_12 rfl ?_
            obtain ⟨h9, hv⟩ := hv
            refine a_iast eX8_changes_13 sA101 kA101 h9 ?_
            refine a_nm (fun M10 eM10 => ?_)
            replace hv := hv M10 eM10
            refine a_iload_n eX8_changes_14 rfl ?_
            refine a_iret eX8_changes_15 rfl rfl (ret_i ?_)
            refine a_icmp_ne (tgt := 116) eX8_pour_109 (by decide) (fun w11 => ?_) (fun w11 => ?_)
            · replace hv := hv.2 w11
              refine a_iconst (v := 1) eX8_pour_116 (by decide) ?_
              refine a_iadd eX8_pour_117 ?_
              refine a_istore_n (vs' := [some (.ref (G.1 100)), some (.int v1), some (.int (v2 + 1)), some (.int v3), some (.int (M 106 (ix ((24 * v1) + v3)))), some (.int (M 106 (ix ((24 * v1) + v3))))]) eX8_pour_118 rfl (Nat.le_of_ble_eq_true rfl) rfl ?_
              refine a_iinc (v := 1) (vs' := [some (.ref (G.1 100)), some (.int v1), some (.int (v2 + 1)), some (.int (v3 + 1)), some (.int (M 106 (ix ((24 * v1) + v3)))), some (.int (M 106 (ix ((24 * v1) + v3))))]) eX8_pour_119 rfl rfl (by decide) rfl ?_
              refine a_goto (tgt := 27) eX8_pour_122 (by decide) ?_
              exact a_weak [true, true, true, true, false, false] rfl rfl hv
            · replace hv := hv.1 w11
              refine a_iconst (v := 0) eX8_pour_112 (by decide) ?_
              refine a_goto (tgt := 117) eX8_pour_113 (by decide) ?_
              refine a_iadd eX8_pour_117 ?_
              refine a_istore_n (vs' := [some (.ref (G.1 100)), some (.int v1), some (.int (v2 + 0)), some (.int v3), some (.int (M 106 (ix ((24 * v1) + v3)))), some (.int (M 106 (ix ((24 * v1) + v3))))]) eX8_pour_118 rfl (Nat.le_of_ble_eq_true rfl) rfl ?_
              refine a_iinc (v := 1) (vs' := [some (.ref (G.1 100)), some (.int v1), some (.int (v2 + 0)), some (.int (v3 + 1)), some (.int (M 106 (ix ((24 * v1) + v3)))), some (.int (M 106 (ix ((24 * v1) + v3))))]) eX8_pour_119 rfl rfl (by decide) rfl ?_
              refine a_goto (tgt := 27) eX8_pour_122 (by decide) ?_
              exact a_weak [true, true, true, true, false, false] rfl rfl hv
          · replace hv := hv.2 w7
            refine a_iload_n eX8_within_13 rfl ?_
            refine a_goto (tgt := 18) eX8_within_14 (by decide) ?_
            refine a_iret eX8_within_18 rfl rfl (ret_i ?_)
            refine a_istore (vs' := [some (.ref (G.1 100)), some (.int v1), some (.int v2), some (.int v3), some (.int (M 106 (ix ((24 * v1) + v3)))), some (.int 99)]) eX8_pour_90 rfl (Nat.le_of_ble_eq_true rfl) rfl ?_
            refine a_iload_n eX8_pour_92 rfl ?_
            refine a_iload eX8_pour_93 rfl ?_
            refine a_aload_n eX8_pour_95 rfl ?_
            refine a_bipush (v := 10) eX8_pour_96 (by decide) ?_
            refine a_iconst (v := 4) eX8_pour_98 (by decide) ?_
            refine a_iload_n eX8_pour_99 rfl ?_
            refine a_imul eX8_pour_100 ?_
            refine a_iadd eX8_pour_101 ?_
            refine a_iconst (v := 2) eX8_pour_102 (by decide) ?_
            refine a_iadd eX8_pour_103 ?_
            refine a_iload eX8_pour_104 rfl ?_
            refine qX8_141 rfl eX8_pour_106 (Nat.le_of_ble_eq_true rfl) ?_
            refine Tr.of rfl (Nat.le_of_ble_eq_true rfl) (vs := [some (.ref (G.1 100)), some (.int ((10 + (4 * v3)) + 2)), some (.int 99), none]) rfl ?_
            refine a_aload_n eX8_changes_0 rfl ?_
            refine gX8_0 eX8_changes_1 fl_X8_7 ?_
            refine a_iload_n eX8_changes_4 rfl ?_
            obtain ⟨h12, hv⟩ := hv
            refine a_iald eX8_changes_5 sA101 kA101 h12 ?_
            refine a_istore_n (vs' := [some (.ref (G.1 100)), some (.int ((10 + (4 * v3)) + 2)), some (.int 99), some (.int (M 101 (ix ((10 + (4 * v3)) + 2))))]) eX8_changes_6 rfl (Nat.le_of_ble_eq_true rfl) rfl ?_
            refine a_aload_n eX8_changes_7 rfl ?_
            refine gX8_0 eX8_changes_8 fl_X8_7 ?_
            refine a_iload_n eX8_changes_11 rfl ?_
            refine a_iload_n eX8_changes_12 rfl ?_
            obtain ⟨h13, hv⟩ := hv
            refine a_iast eX8_changes_13 sA101 kA101 h13 ?_
            refine a_iload_n eX8_changes_14 rfl ?_
            refine a_iret eX8_changes_15 rfl rfl (ret_i ?_)
            refine a_icmp_ne (tgt := 116) eX8_pour_109 (by decide) (fun w14 => ?_) (fun w14 => ?_)
            · replace hv := hv.2 w14
              refine a_iconst (v := 1) eX8_pour_116 (by decide) ?_
              refine a_iadd eX8_pour_117 ?_
              refine a_istore_n (vs' := [some (.ref (G.1 100)), some (.int v1), some (.int (v2 + 1)), some (.int v3), some (.int (M 106 (ix ((24 * v1) + v3)))), some (.int 99)]) eX8_pour_118 rfl (Nat.le_of_ble_eq_true rfl) rfl ?_
              refine a_iinc (v := 1) (vs' := [some (.ref (G.1 100)), some (.int v1), some (.int (v2 + 1)), some (.int (v3 + 1)), some (.int (M 106 (ix ((24 * v1) + v3)))), some (.int 99)]) eX8_pour_119 rfl rfl (by decide) rfl ?_
              refine a_goto (tgt := 27) eX8_pour_122 (by decide) ?_
              exact a_weak [true, true, true, true, false, false] rfl rfl hv
            · replace hv := hv.1 w14
              refine a_iconst (v := 0) eX8_pour_112 (by decide) ?_
              refine a_goto (tgt := 117) eX8_pour_113 (by decide) ?_
              refine a_iadd eX8_pour_117 ?_
              refine a_istore_n (vs' := [some (.ref (G.1 100)), some (.int v1), some (.int (v2 + 0)), some (.int v3), some (.int (M 106 (ix ((24 * v1) + v3)))), some (.int 99)]) eX8_pour_118 rfl (Nat.le_of_ble_eq_true rfl) rfl ?_
              refine a_iinc (v := 1) (vs' := [some (.ref (G.1 100)), some (.int v1), some (.int (v2 + 0)), some (.int (v3 + 1)), some (.int (M 106 (ix ((24 * v1) + v3)))), some (.int 99)]) eX8_pour_119 rfl rfl (by decide) rfl ?_
              refine a_goto (tgt := 27) eX8_pour_122 (by decide) ?_
              exact a_weak [true, true, true, true, false, false] rfl rfl hv
        · replace hv := hv.2 w6
          refine a_iconst (v := 0) eX8_within_4 (by decide) ?_
          refine a_goto (tgt := 18) eX8_within_5 (by decide) ?_
          refine a_iret eX8_within_18 rfl rfl (ret_i ?_)
          refine a_istore (vs' := [some (.ref (G.1 100)), some (.int v1), some (.int v2), some (.int v3), some (.int (M 106 (ix ((24 * v1) + v3)))), some (.int 0)]) eX8_pour_90 rfl (Nat.le_of_ble_eq_true rfl) rfl ?_
          refine a_iload_n eX8_pour_92 rfl ?_
          refine a_iload eX8_pour_93 rfl ?_
          refine a_aload_n eX8_pour_95 rfl ?_
          refine a_bipush (v := 10) eX8_pour_96 (by decide) ?_
          refine a_iconst (v := 4) eX8_pour_98 (by decide) ?_
          refine a_iload_n eX8_pour_99 rfl ?_
          refine a_imul eX8_pour_100 ?_
          refine a_iadd eX8_pour_101 ?_
          refine a_iconst (v := 2) eX8_pour_102 (by decide) ?_
          refine a_iadd eX8_pour_103 ?_
          refine a_iload eX8_pour_104 rfl ?_
          refine qX8_141 rfl eX8_pour_106 (Nat.le_of_ble_eq_true rfl) ?_
          refine Tr.of rfl (Nat.le_of_ble_eq_true rfl) (vs := [some (.ref (G.1 100)), some (.int ((10 + (4 * v3)) + 2)), some (.int 0), none]) rfl ?_
          refine a_aload_n eX8_changes_0 rfl ?_
          refine gX8_0 eX8_changes_1 fl_X8_7 ?_
          refine a_iload_n eX8_changes_4 rfl ?_
          obtain ⟨h15, hv⟩ := hv
          refine a_iald eX8_changes_5 sA101 kA101 h15 ?_
          refine a_istore_n (vs' := [some (.ref (G.1 100)), some (.int ((10 + (4 * v3)) + 2)), some (.int 0), some (.int (M 101 (ix ((10 + (4 * v3)) + 2))))]) eX8_changes_6 rfl (Nat.le_of_ble_eq_true rfl) rfl ?_
          refine a_aload_n eX8_changes_7 rfl ?_
          refine gX8_0 eX8_changes_8 fl_X8_7 ?_
          refine a_iload_n eX8_changes_11 rfl ?_
          refine a_iload_n eX8_changes_12 rfl ?_
          obtain ⟨h16, hv⟩ := hv
          refine a_iast eX8_changes_13 sA101 kA101 h16 ?_
          refine a_iload_n eX8_changes_14 rfl ?_
          refine a_iret eX8_changes_15 rfl rfl (ret_i ?_)
          refine a_icmp_ne (tgt := 116) eX8_pour_109 (by decide) (fun w17 => ?_) (fun w17 => ?_)
          · replace hv := hv.2 w17
            refine a_iconst (v := 1) eX8_pour_116 (by decide) ?_
            refine a_iadd eX8_pour_117 ?_
            refine a_istore_n (vs' := [some (.ref (G.1 100)), some (.int v1), some (.int (v2 + 1)), some (.int v3), some (.int (M 106 (ix ((24 * v1) + v3)))), some (.int 0)]) eX8_pour_118 rfl (Nat.le_of_ble_eq_true rfl) rfl ?_
            refine a_iinc (v := 1) (vs' := [some (.ref (G.1 100)), some (.int v1), some (.int (v2 + 1)), some (.int (v3 + 1)), some (.int (M 106 (ix ((24 * v1) + v3)))), some (.int 0)]) eX8_pour_119 rfl rfl (by decide) rfl ?_
            refine a_goto (tgt := 27) eX8_pour_122 (by decide) ?_
            exact a_weak [true, true, true, true, false, false] rfl rfl hv
          · replace hv := hv.1 w17
            refine a_iconst (v := 0) eX8_pour_112 (by decide) ?_
            refine a_goto (tgt := 117) eX8_pour_113 (by decide) ?_
            refine a_iadd eX8_pour_117 ?_
            refine a_istore_n (vs' := [some (.ref (G.1 100)), some (.int v1), some (.int (v2 + 0)), some (.int v3), some (.int (M 106 (ix ((24 * v1) + v3)))), some (.int 0)]) eX8_pour_118 rfl (Nat.le_of_ble_eq_true rfl) rfl ?_
            refine a_iinc (v := 1) (vs' := [some (.ref (G.1 100)), some (.int v1), some (.int (v2 + 0)), some (.int (v3 + 1)), some (.int (M 106 (ix ((24 * v1) + v3)))), some (.int 0)]) eX8_pour_119 rfl rfl (by decide) rfl ?_
            refine a_goto (tgt := 27) eX8_pour_122 (by decide) ?_
            exact a_weak [true, true, true, true, false, false] rfl rfl hv
      · replace hv := hv.1 w5
        refine a_aload_n eX8_pour_67 rfl ?_
        refine gX8_0 eX8_pour_68 fl_X8_7 ?_
        refine a_bipush (v := 10) eX8_pour_71 (by decide) ?_
        refine a_iconst (v := 4) eX8_pour_73 (by decide) ?_
        refine a_iload_n eX8_pour_74 rfl ?_
        refine a_imul eX8_pour_75 ?_
        refine a_iadd eX8_pour_76 ?_
        refine a_iconst (v := 2) eX8_pour_77 (by decide) ?_
        refine a_iadd eX8_pour_78 ?_
        obtain ⟨h18, hv⟩ := hv
        refine a_iald eX8_pour_79 sA101 kA101 h18 ?_
        refine a_goto (tgt := 90) eX8_pour_80 (by decide) ?_
        refine a_istore (vs' := [some (.ref (G.1 100)), some (.int v1), some (.int v2), some (.int v3), some (.int (M 106 (ix ((24 * v1) + v3)))), some (.int (M 101 (ix ((10 + (4 * v3)) + 2))))]) eX8_pour_90 rfl (Nat.le_of_ble_eq_true rfl) rfl ?_
        refine a_iload_n eX8_pour_92 rfl ?_
        refine a_iload eX8_pour_93 rfl ?_
        refine a_aload_n eX8_pour_95 rfl ?_
        refine a_bipush (v := 10) eX8_pour_96 (by decide) ?_
        refine a_iconst (v := 4) eX8_pour_98 (by decide) ?_
        refine a_iload_n eX8_pour_99 rfl ?_
        refine a_imul eX8_pour_100 ?_
        refine a_iadd eX8_pour_101 ?_
        refine a_iconst (v := 2) eX8_pour_102 (by decide) ?_
        refine a_iadd eX8_pour_103 ?_
        refine a_iload eX8_pour_104 rfl ?_
        refine qX8_141 rfl eX8_pour_106 (Nat.le_of_ble_eq_true rfl) ?_
        refine Tr.of rfl (Nat.le_of_ble_eq_true rfl) (vs := [some (.ref (G.1 100)), some (.int ((10 + (4 * v3)) + 2)), some (.int (M 101 (ix ((10 + (4 * v3)) + 2)))), none]) rfl ?_
        refine a_aload_n eX8_changes_0 rfl ?_
        refine gX8_0 eX8_changes_1 fl_X8_7 ?_
        refine a_iload_n eX8_changes_4 rfl ?_
        obtain ⟨h19, hv⟩ := hv
        refine a_iald eX8_changes_5 sA101 kA101 h19 ?_
        refine a_istore_n (vs' := [some (.ref (G.1 100)), some (.int ((10 + (4 * v3)) + 2)), some (.int (M 101 (ix ((10 + (4 * v3)) + 2)))), some (.int (M 101 (ix ((10 + (4 * v3)) + 2))))]) eX8_changes_6 rfl (Nat.le_of_ble_eq_true rfl) rfl ?_
        refine a_aload_n eX8_changes_7 rfl ?_
        refine gX8_0 eX8_changes_8 fl_X8_7 ?_
        refine a_iload_n eX8_changes_11 rfl ?_
        refine a_iload_n eX8_changes_12 rfl ?_
        obtain ⟨h20, hv⟩ := hv
        refine a_iast eX8_changes_13 sA101 kA101 h20 ?_
        refine a_nm (fun M21 eM21 => ?_)
        replace hv := hv M21 eM21
        refine a_iload_n eX8_changes_14 rfl ?_
        refine a_iret eX8_changes_15 rfl rfl (ret_i ?_)
        refine a_icmp_ne (tgt := 116) eX8_pour_109 (by decide) (fun w22 => ?_) (fun w22 => ?_)
        · replace hv := hv.2 w22
          refine a_iconst (v := 1) eX8_pour_116 (by decide) ?_
          refine a_iadd eX8_pour_117 ?_
          refine a_istore_n (vs' := [some (.ref (G.1 100)), some (.int v1), some (.int (v2 + 1)), some (.int v3), some (.int (M 106 (ix ((24 * v1) + v3)))), some (.int (M 101 (ix ((10 + (4 * v3)) + 2))))]) eX8_pour_118 rfl (Nat.le_of_ble_eq_true rfl) rfl ?_
          refine a_iinc (v := 1) (vs' := [some (.ref (G.1 100)), some (.int v1), some (.int (v2 + 1)), some (.int (v3 + 1)), some (.int (M 106 (ix ((24 * v1) + v3)))), some (.int (M 101 (ix ((10 + (4 * v3)) + 2))))]) eX8_pour_119 rfl rfl (by decide) rfl ?_
          refine a_goto (tgt := 27) eX8_pour_122 (by decide) ?_
          exact a_weak [true, true, true, true, false, false] rfl rfl hv
        · replace hv := hv.1 w22
          refine a_iconst (v := 0) eX8_pour_112 (by decide) ?_
          refine a_goto (tgt := 117) eX8_pour_113 (by decide) ?_
          refine a_iadd eX8_pour_117 ?_
          refine a_istore_n (vs' := [some (.ref (G.1 100)), some (.int v1), some (.int (v2 + 0)), some (.int v3), some (.int (M 106 (ix ((24 * v1) + v3)))), some (.int (M 101 (ix ((10 + (4 * v3)) + 2))))]) eX8_pour_118 rfl (Nat.le_of_ble_eq_true rfl) rfl ?_
          refine a_iinc (v := 1) (vs' := [some (.ref (G.1 100)), some (.int v1), some (.int (v2 + 0)), some (.int (v3 + 1)), some (.int (M 106 (ix ((24 * v1) + v3)))), some (.int (M 101 (ix ((10 + (4 * v3)) + 2))))]) eX8_pour_119 rfl rfl (by decide) rfl ?_
          refine a_goto (tgt := 27) eX8_pour_122 (by decide) ?_
          exact a_weak [true, true, true, true, false, false] rfl rfl hv
theorem tX8_reads {l : Launch} {G : GT} {d : Nat} {M : Mem} {R : Option Value → Mem → Prop} {v1 : Int32} (hv : (0 ≤ v1 → (v1 ≤ 3 → vp_in v1 4 ∧ (0 ≤ (M 104 (ix v1)) → At l G (d + 4) mX8_reads 25 [some (.ref (G.1 100)), some (.int v1), some (.int 0), none] [] M R) ∧ (¬ (0 ≤ (M 104 (ix v1))) → R (some (.int (-1000000011))) M)) ∧ (¬ (v1 ≤ 3) → R (some (.int (-1000000001))) M)) ∧ (¬ (0 ≤ v1) → R (some (.int (-1000000001))) M)) : Tr l G (d + 4) mX8_reads [.ref (G.1 100), .int v1] M R := by
  refine Tr.of rfl (Nat.le_of_ble_eq_true rfl) (vs := [some (.ref (G.1 100)), some (.int v1), none, none]) rfl ?_
  refine a_iload_n eX8_reads_0 rfl ?_
  refine qX8_330 rfl eX8_reads_1 (Nat.le_of_ble_eq_true rfl) ?_
  refine Tr.of rfl (Nat.le_of_ble_eq_true rfl) (vs := [some (.int v1)]) rfl ?_
  refine a_iload_n eX8_isSheet_0 rfl ?_
  refine a_i2l eX8_isSheet_1 ?_
  refine a_lconsti 0 eX8_isSheet_2 (by decide) ?_
  refine a_ldc2i 3 eX8_isSheet_3 kl_X8_157 (by decide) ?_
  refine qX8_68 rfl eX8_isSheet_6 (Nat.le_of_ble_eq_true rfl) ?_
  refine in_isIn (v := v1) (lo := 0) (hi := 3) ⟨fun w3 => ⟨fun w4 => ret_i ?_, fun w4 => ret_i ?_⟩, fun w3 => ret_i ?_⟩
  · replace hv := (hv.1 w3).1 w4
    refine a_iret eX8_isSheet_9 rfl rfl (ret_i ?_)
    refine a_if_ne (tgt := 10) eX8_reads_4 (by decide) (fun _ => ?_) (fun h => absurd h (by decide))
    refine a_aload_n eX8_reads_10 rfl ?_
    refine gX8_4 eX8_reads_11 fl_X8_19 ?_
    refine a_iload_n eX8_reads_14 rfl ?_
    obtain ⟨h1, hv⟩ := hv
    refine a_iald eX8_reads_15 sA104 kA104 h1 ?_
    refine a_if_ge (tgt := 23) eX8_reads_16 (by decide) (fun w2 => ?_) (fun w2 => ?_)
    · replace hv := hv.1 w2
      refine a_iconst (v := 0) eX8_reads_23 (by decide) ?_
      refine a_istore_n (vs' := [some (.ref (G.1 100)), some (.int v1), some (.int 0), none]) eX8_reads_24 rfl (Nat.le_of_ble_eq_true rfl) rfl ?_
      exact a_weak [true, true, true, false] rfl rfl hv
    · replace hv := hv.2 w2
      refine a_ldcw eX8_reads_19 kc_X8_336 ?_
      exact a_iret eX8_reads_22 rfl rfl hv
  · replace hv := (hv.1 w3).2 w4
    refine a_iret eX8_isSheet_9 rfl rfl (ret_i ?_)
    refine a_if_ne (tgt := 10) eX8_reads_4 (by decide) (fun h => absurd h (by decide)) (fun _ => ?_)
    refine a_ldc eX8_reads_7 kc_X8_117 ?_
    exact a_iret eX8_reads_9 rfl rfl hv
  · replace hv := hv.2 w3
    refine a_iret eX8_isSheet_9 rfl rfl (ret_i ?_)
    refine a_if_ne (tgt := 10) eX8_reads_4 (by decide) (fun h => absurd h (by decide)) (fun _ => ?_)
    refine a_ldc eX8_reads_7 kc_X8_117 ?_
    exact a_iret eX8_reads_9 rfl rfl hv
theorem bX8_reads_25 {l : Launch} {G : GT} {d : Nat} {M : Mem} {R : Option Value → Mem → Prop} {v1 : Int32} {v2 : Int32} (hv : vp_in v1 4 ∧ ((M 105 (ix v1)) ≤ v2 → R (some (.int (-1000000005))) M) ∧ (¬ ((M 105 (ix v1)) ≤ v2) → vp_in ((24 * v1) + v2) 96 ∧ ((M 106 (ix ((24 * v1) + v2))) = (-1000000005) → At l G (d + 4) mX8_reads 25 [some (.ref (G.1 100)), some (.int v1), some (.int (v2 + 1)), none] [] M R) ∧ (¬ ((M 106 (ix ((24 * v1) + v2))) = (-1000000005)) → ((M 101 0) ≤ v2 → R (some (.int v2)) M) ∧ (¬ ((M 101 0) ≤ v2) → vp_in ((10 + (4 * v2)) + 3) 3084 ∧ Tr l G (d + 3) mX8_bits [.int (M 101 (ix ((10 + (4 * v2)) + 3)))] M (kI fun q M' => At l G (d + 4) mX8_reads 73 [some (.ref (G.1 100)), some (.int v1), some (.int v2), none] [.int q, .int (M 106 (ix ((24 * v1) + v2)))] M' R))))) : At l G (d + 4) mX8_reads 25 [some (.ref (G.1 100)), some (.int v1), some (.int v2), none] [] M R := by
  refine a_iload_n eX8_reads_25 rfl ?_
  refine a_aload_n eX8_reads_26 rfl ?_
  refine gX8_5 eX8_reads_27 fl_X8_22 ?_
  refine a_iload_n eX8_reads_30 rfl ?_
  obtain ⟨h1, hv⟩ := hv
  refine a_iald eX8_reads_31 sA105 kA105 h1 ?_
  refine a_icmp_ge (tgt := 84) eX8_reads_32 (by decide) (fun w2 => ?_) (fun w2 => ?_)
  · replace hv := hv.1 w2
    refine a_ldc eX8_reads_84 kc_X8_67 ?_
    exact a_iret eX8_reads_86 rfl rfl hv
  · replace hv := hv.2 w2
    refine a_aload_n eX8_reads_35 rfl ?_
    refine gX8_6 eX8_reads_36 fl_X8_25 ?_
    refine a_bipush (v := 24) eX8_reads_39 (by decide) ?_
    refine a_iload_n eX8_reads_41 rfl ?_
    refine a_imul eX8_reads_42 ?_
    refine a_iload_n eX8_reads_43 rfl ?_
    refine a_iadd eX8_reads_44 ?_
    obtain ⟨h3, hv⟩ := hv
    refine a_iald eX8_reads_45 sA106 kA106 h3 ?_
    refine a_istore_n (vs' := [some (.ref (G.1 100)), some (.int v1), some (.int v2), some (.int (M 106 (ix ((24 * v1) + v2))))]) eX8_reads_46 rfl (Nat.le_of_ble_eq_true rfl) rfl ?_
    refine a_iload_n eX8_reads_47 rfl ?_
    refine a_ldc eX8_reads_48 kc_X8_67 ?_
    refine a_icmp_eq (tgt := 78) eX8_reads_50 (by decide) (fun w4 => ?_) (fun w4 => ?_)
    · replace hv := hv.1 w4
      refine a_iinc (v := 1) (vs' := [some (.ref (G.1 100)), some (.int v1), some (.int (v2 + 1)), some (.int (M 106 (ix ((24 * v1) + v2))))]) eX8_reads_78 rfl rfl (by decide) rfl ?_
      refine a_goto (tgt := 25) eX8_reads_81 (by decide) ?_
      exact a_weak [true, true, true, false] rfl rfl hv
    · replace hv := hv.2 w4
      refine a_iload_n eX8_reads_53 rfl ?_
      refine a_aload_n eX8_reads_54 rfl ?_
      refine gX8_0 eX8_reads_55 fl_X8_7 ?_
      refine a_iconst (v := 0) eX8_reads_58 (by decide) ?_
      refine a_ialdc 0 eX8_reads_59 sA101 kA101 (by decide) (by decide) ?_
      refine a_icmp_ge (tgt := 76) eX8_reads_60 (by decide) (fun w5 => ?_) (fun w5 => ?_)
      · replace hv := hv.1 w5
        refine a_iload_n eX8_reads_76 rfl ?_
        exact a_iret eX8_reads_77 rfl rfl hv
      · replace hv := hv.2 w5
        refine a_iload_n eX8_reads_63 rfl ?_
        refine a_aload_n eX8_reads_64 rfl ?_
        refine a_iload_n eX8_reads_65 rfl ?_
        refine a_iconst (v := 3) eX8_reads_66 (by decide) ?_
        refine qX8_86 rfl eX8_reads_67 (Nat.le_of_ble_eq_true rfl) ?_
        refine Tr.of rfl (Nat.le_of_ble_eq_true rfl) (vs := [some (.ref (G.1 100)), some (.int v2), some (.int 3)]) rfl ?_
        refine a_aload_n eX8_of_0 rfl ?_
        refine gX8_0 eX8_of_1 fl_X8_7 ?_
        refine a_bipush (v := 10) eX8_of_4 (by decide) ?_
        refine a_iconst (v := 4) eX8_of_6 (by decide) ?_
        refine a_iload_n eX8_of_7 rfl ?_
        refine a_imul eX8_of_8 ?_
        refine a_iadd eX8_of_9 ?_
        refine a_iload_n eX8_of_10 rfl ?_
        refine a_iadd eX8_of_11 ?_
        obtain ⟨h6, hv⟩ := hv
        refine a_iald eX8_of_12 sA101 kA101 h6 ?_
        refine a_iret eX8_of_13 rfl rfl (ret_i ?_)
        exact qX8_102 rfl eX8_reads_70 (Nat.le_of_ble_eq_true rfl) (tr_I [true, true, true, false] rfl rfl hv)
theorem bX8_reads_73 {l : Launch} {G : GT} {d : Nat} {M : Mem} {R : Option Value → Mem → Prop} {v1 : Int32} {v2 : Int32} {r : Int32} {t1 : Int32} (hv : (t1 = r → At l G (d + 4) mX8_reads 25 [some (.ref (G.1 100)), some (.int v1), some (.int (v2 + 1)), none] [] M R) ∧ (¬ (t1 = r) → R (some (.int v2)) M)) : At l G (d + 4) mX8_reads 73 [some (.ref (G.1 100)), some (.int v1), some (.int v2), none] [.int r, .int t1] M R := by
  refine a_icmp_eq (tgt := 78) eX8_reads_73 (by decide) (fun w1 => ?_) (fun w1 => ?_)
  · replace hv := hv.1 w1
    refine a_iinc (v := 1) (vs' := [some (.ref (G.1 100)), some (.int v1), some (.int (v2 + 1)), none]) eX8_reads_78 rfl rfl (by decide) rfl ?_
    refine a_goto (tgt := 25) eX8_reads_81 (by decide) ?_
    exact a_weak [true, true, true, false] rfl rfl hv
  · replace hv := hv.2 w1
    refine a_iload_n eX8_reads_76 rfl ?_
    exact a_iret eX8_reads_77 rfl rfl hv
theorem tX8_likeOnes {l : Launch} {G : GT} {d : Nat} {M : Mem} {R : Option Value → Mem → Prop} {v1 : Int32} {v2 : Int32} (hv : Tr l G (d + 3) mX8_laysBy [.ref (G.1 100)] M (kV fun M' => At l G (d + 4) mX8_likeOnes 4 [some (.ref (G.1 100)), some (.int v1), some (.int v2), none, none, none] [] M' R)) : Tr l G (d + 4) mX8_likeOnes [.ref (G.1 100), .int v1, .int v2] M R := by
  refine Tr.of rfl (Nat.le_of_ble_eq_true rfl) (vs := [some (.ref (G.1 100)), some (.int v1), some (.int v2), none, none, none]) rfl ?_
  refine a_aload_n eX8_likeOnes_0 rfl ?_
  exact qX8_222 rfl eX8_likeOnes_1 (Nat.le_of_ble_eq_true rfl) (tr_V [true, true, true, false, false, false] rfl rfl hv)
theorem bX8_likeOnes_4 {l : Launch} {G : GT} {d : Nat} {M : Mem} {R : Option Value → Mem → Prop} {v1 : Int32} {v2 : Int32} (hv : At l G (d + 4) mX8_likeOnes 9 [some (.ref (G.1 100)), some (.int v1), some (.int v2), some (.int 0), some (.int 0), none] [] M R) : At l G (d + 4) mX8_likeOnes 4 [some (.ref (G.1 100)), some (.int v1), some (.int v2), none, none, none] [] M R := by
  refine a_iconst (v := 0) eX8_likeOnes_4 (by decide) ?_
  refine a_istore_n (vs' := [some (.ref (G.1 100)), some (.int v1), some (.int v2), some (.int 0), none, none]) eX8_likeOnes_5 rfl (Nat.le_of_ble_eq_true rfl) rfl ?_
  refine a_iconst (v := 0) eX8_likeOnes_6 (by decide) ?_
  refine a_istore (vs' := [some (.ref (G.1 100)), some (.int v1), some (.int v2), some (.int 0), some (.int 0), none]) eX8_likeOnes_7 rfl (Nat.le_of_ble_eq_true rfl) rfl ?_
  exact a_weak [true, true, true, true, true, false] rfl rfl hv
theorem bX8_likeOnes_9 {l : Launch} {G : GT} {d : Nat} {M : Mem} {R : Option Value → Mem → Prop} {v1 : Int32} {v2 : Int32} {v3 : Int32} {v4 : Int32} (hv : vp_in v1 4 ∧ ((M 105 (ix v1)) ≤ v4 → Tr l G (d + 3) mX8_laysBack [.ref (G.1 100)] M (kV fun M' => At l G (d + 4) mX8_likeOnes 74 [none, none, none, some (.int v3), none, none] [] M' R)) ∧ (¬ ((M 105 (ix v1)) ≤ v4) → vp_in ((24 * v1) + v4) 96 ∧ ((M 106 (ix ((24 * v1) + v4))) = (-1000000005) → Tr l G (d + 3) mX8_goesOn [.ref (G.1 100)] M (kV fun M' => At l G (d + 4) mX8_likeOnes 64 [some (.ref (G.1 100)), some (.int v1), some (.int v2), some (.int (v3 + 0)), some (.int v4), none] [] M' R)) ∧ (¬ ((M 106 (ix ((24 * v1) + v4))) = (-1000000005)) → vp_in ((10 + (4 * v2)) + 1) 3084 ∧ ((M 106 (ix ((24 * v1) + v4))) = (M 101 (ix ((10 + (4 * v2)) + 1))) → Tr l G (d + 3) mX8_goesOn [.ref (G.1 100)] M (kV fun M' => At l G (d + 4) mX8_likeOnes 64 [some (.ref (G.1 100)), some (.int v1), some (.int v2), some (.int (v3 + 1)), some (.int v4), none] [] M' R)) ∧ (¬ ((M 106 (ix ((24 * v1) + v4))) = (M 101 (ix ((10 + (4 * v2)) + 1)))) → Tr l G (d + 3) mX8_goesOn [.ref (G.1 100)] M (kV fun M' => At l G (d + 4) mX8_likeOnes 64 [some (.ref (G.1 100)), some (.int v1), some (.int v2), some (.int (v3 + 0)), some (.int v4), none] [] M' R))))) : At l G (d + 4) mX8_likeOnes 9 [some (.ref (G.1 100)), some (.int v1), some (.int v2), some (.int v3), some (.int v4), none] [] M R := by
  refine a_iload eX8_likeOnes_9 rfl ?_
  refine a_aload_n eX8_likeOnes_11 rfl ?_
  refine gX8_5 eX8_likeOnes_12 fl_X8_22 ?_
  refine a_iload_n eX8_likeOnes_15 rfl ?_
  obtain ⟨h1, hv⟩ := hv
  refine a_iald eX8_likeOnes_16 sA105 kA105 h1 ?_
  refine a_icmp_ge (tgt := 70) eX8_likeOnes_17 (by decide) (fun w2 => ?_) (fun w2 => ?_)
  · replace hv := hv.1 w2
    refine a_aload_n eX8_likeOnes_70 rfl ?_
    exact qX8_225 rfl eX8_likeOnes_71 (Nat.le_of_ble_eq_true rfl) (tr_V [false, false, false, true, false, false] rfl rfl hv)
  · replace hv := hv.2 w2
    refine a_aload_n eX8_likeOnes_20 rfl ?_
    refine gX8_6 eX8_likeOnes_21 fl_X8_25 ?_
    refine a_bipush (v := 24) eX8_likeOnes_24 (by decide) ?_
    refine a_iload_n eX8_likeOnes_26 rfl ?_
    refine a_imul eX8_likeOnes_27 ?_
    refine a_iload eX8_likeOnes_28 rfl ?_
    refine a_iadd eX8_likeOnes_30 ?_
    obtain ⟨h3, hv⟩ := hv
    refine a_iald eX8_likeOnes_31 sA106 kA106 h3 ?_
    refine a_istore (vs' := [some (.ref (G.1 100)), some (.int v1), some (.int v2), some (.int v3), some (.int v4), some (.int (M 106 (ix ((24 * v1) + v4))))]) eX8_likeOnes_32 rfl (Nat.le_of_ble_eq_true rfl) rfl ?_
    refine a_iload_n eX8_likeOnes_34 rfl ?_
    refine a_iload eX8_likeOnes_35 rfl ?_
    refine a_ldc eX8_likeOnes_37 kc_X8_67 ?_
    refine a_icmp_eq (tgt := 57) eX8_likeOnes_39 (by decide) (fun w4 => ?_) (fun w4 => ?_)
    · replace hv := hv.1 w4
      refine a_iconst (v := 0) eX8_likeOnes_57 (by decide) ?_
      refine a_iadd eX8_likeOnes_58 ?_
      refine a_istore_n (vs' := [some (.ref (G.1 100)), some (.int v1), some (.int v2), some (.int (v3 + 0)), some (.int v4), some (.int (M 106 (ix ((24 * v1) + v4))))]) eX8_likeOnes_59 rfl (Nat.le_of_ble_eq_true rfl) rfl ?_
      refine a_aload_n eX8_likeOnes_60 rfl ?_
      exact qX8_194 rfl eX8_likeOnes_61 (Nat.le_of_ble_eq_true rfl) (tr_V [true, true, true, true, true, false] rfl rfl hv)
    · replace hv := hv.2 w4
      refine a_iload eX8_likeOnes_42 rfl ?_
      refine a_aload_n eX8_likeOnes_44 rfl ?_
      refine a_iload_n eX8_likeOnes_45 rfl ?_
      refine a_iconst (v := 1) eX8_likeOnes_46 (by decide) ?_
      refine qX8_86 rfl eX8_likeOnes_47 (Nat.le_of_ble_eq_true rfl) ?_
      refine Tr.of rfl (Nat.le_of_ble_eq_true rfl) (vs := [some (.ref (G.1 100)), some (.int v2), some (.int 1)]) rfl ?_
      refine a_aload_n eX8_of_0 rfl ?_
      refine gX8_0 eX8_of_1 fl_X8_7 ?_
      refine a_bipush (v := 10) eX8_of_4 (by decide) ?_
      refine a_iconst (v := 4) eX8_of_6 (by decide) ?_
      refine a_iload_n eX8_of_7 rfl ?_
      refine a_imul eX8_of_8 ?_
      refine a_iadd eX8_of_9 ?_
      refine a_iload_n eX8_of_10 rfl ?_
      refine a_iadd eX8_of_11 ?_
      obtain ⟨h5, hv⟩ := hv
      refine a_iald eX8_of_12 sA101 kA101 h5 ?_
      refine a_iret eX8_of_13 rfl rfl (ret_i ?_)
      refine a_icmp_ne (tgt := 57) eX8_likeOnes_50 (by decide) (fun w6 => ?_) (fun w6 => ?_)
      · replace hv := hv.2 w6
        refine a_iconst (v := 0) eX8_likeOnes_57 (by decide) ?_
        refine a_iadd eX8_likeOnes_58 ?_
        refine a_istore_n (vs' := [some (.ref (G.1 100)), some (.int v1), some (.int v2), some (.int (v3 + 0)), some (.int v4), some (.int (M 106 (ix ((24 * v1) + v4))))]) eX8_likeOnes_59 rfl (Nat.le_of_ble_eq_true rfl) rfl ?_
        refine a_aload_n eX8_likeOnes_60 rfl ?_
        exact qX8_194 rfl eX8_likeOnes_61 (Nat.le_of_ble_eq_true rfl) (tr_V [true, true, true, true, true, false] rfl rfl hv)
      · replace hv := hv.1 w6
        refine a_iconst (v := 1) eX8_likeOnes_53 (by decide) ?_
        refine a_goto (tgt := 58) eX8_likeOnes_54 (by decide) ?_
        refine a_iadd eX8_likeOnes_58 ?_
        refine a_istore_n (vs' := [some (.ref (G.1 100)), some (.int v1), some (.int v2), some (.int (v3 + 1)), some (.int v4), some (.int (M 106 (ix ((24 * v1) + v4))))]) eX8_likeOnes_59 rfl (Nat.le_of_ble_eq_true rfl) rfl ?_
        refine a_aload_n eX8_likeOnes_60 rfl ?_
        exact qX8_194 rfl eX8_likeOnes_61 (Nat.le_of_ble_eq_true rfl) (tr_V [true, true, true, true, true, false] rfl rfl hv)
theorem bX8_likeOnes_64 {l : Launch} {G : GT} {d : Nat} {M : Mem} {R : Option Value → Mem → Prop} {v1 : Int32} {v2 : Int32} {v3 : Int32} {v4 : Int32} (hv : At l G (d + 4) mX8_likeOnes 9 [some (.ref (G.1 100)), some (.int v1), some (.int v2), some (.int v3), some (.int (v4 + 1)), none] [] M R) : At l G (d + 4) mX8_likeOnes 64 [some (.ref (G.1 100)), some (.int v1), some (.int v2), some (.int v3), some (.int v4), none] [] M R := by
  refine a_iinc (v := 1) (vs' := [some (.ref (G.1 100)), some (.int v1), some (.int v2), some (.int v3), some (.int (v4 + 1)), none]) eX8_likeOnes_64 rfl rfl (by decide) rfl ?_
  refine a_goto (tgt := 9) eX8_likeOnes_67 (by decide) ?_
  exact a_weak [true, true, true, true, true, false] rfl rfl hv
theorem bX8_likeOnes_74 {l : Launch} {G : GT} {d : Nat} {M : Mem} {R : Option Value → Mem → Prop} {v3 : Int32} (hv : R (some (.int v3)) M) : At l G (d + 4) mX8_likeOnes 74 [none, none, none, some (.int v3), none, none] [] M R := by
  refine a_iload_n eX8_likeOnes_74 rfl ?_
  exact a_iret eX8_likeOnes_75 rfl rfl hv
theorem tX8_like {l : Launch} {G : GT} {d : Nat} {M : Mem} {R : Option Value → Mem → Prop} {v1 : Int32} {v2 : Int32} (hv : (0 ≤ v1 → (v1 ≤ 3 → (0 ≤ v2 → (v2 ≤ 1 → vp_in v1 4 ∧ (0 ≤ (M 104 (ix v1)) → At l G (d + 4) mX8_like 41 [some (.ref (G.1 100)), some (.int v1), some (.int v2), some (.int (-1)), some (.int (-1)), some (.int 0), none] [] M R) ∧ (¬ (0 ≤ (M 104 (ix v1))) → R (some (.int (-1000000011))) M)) ∧ (¬ (v2 ≤ 1) → R (some (.int (-1000000001))) M)) ∧ (¬ (0 ≤ v2) → R (some (.int (-1000000001))) M)) ∧ (¬ (v1 ≤ 3) → R (some (.int (-1000000001))) M)) ∧ (¬ (0 ≤ v1) → R (some (.int (-1000000001))) M)) : Tr l G (d + 4) mX8_like [.ref (G.1 100), .int v1, .int v2] M R := by
  refine Tr.of rfl (Nat.le_of_ble_eq_true rfl) (vs := [some (.ref (G.1 100)), some (.int v1), some (.int v2), none, none, none, none]) rfl ?_
  refine a_iload_n eX8_like_0 rfl ?_
  refine qX8_330 rfl eX8_like_1 (Nat.le_of_ble_eq_true rfl) ?_
  refine Tr.of rfl (Nat.le_of_ble_eq_true rfl) (vs := [some (.int v1)]) rfl ?_
  refine a_iload_n eX8_isSheet_0 rfl ?_
  refine a_i2l eX8_isSheet_1 ?_
  refine a_lconsti 0 eX8_isSheet_2 (by decide) ?_
  refine a_ldc2i 3 eX8_isSheet_3 kl_X8_157 (by decide) ?_
  refine qX8_68 rfl eX8_isSheet_6 (Nat.le_of_ble_eq_true rfl) ?_
  refine in_isIn (v := v1) (lo := 0) (hi := 3) ⟨fun w5 => ⟨fun w6 => ret_i ?_, fun w6 => ret_i ?_⟩, fun w5 => ret_i ?_⟩
  · replace hv := (hv.1 w5).1 w6
    refine a_iret eX8_isSheet_9 rfl rfl (ret_i ?_)
    refine a_if_eq (tgt := 17) eX8_like_4 (by decide) (fun h => absurd h (by decide)) (fun _ => ?_)
    refine a_iload_n eX8_like_7 rfl ?_
    refine a_i2l eX8_like_8 ?_
    refine a_lconsti 0 eX8_like_9 (by decide) ?_
    refine a_lconsti 1 eX8_like_10 (by decide) ?_
    refine qX8_68 rfl eX8_like_11 (Nat.le_of_ble_eq_true rfl) ?_
    refine in_isIn (v := v2) (lo := 0) (hi := 1) ⟨fun w3 => ⟨fun w4 => ret_i ?_, fun w4 => ret_i ?_⟩, fun w3 => ret_i ?_⟩
    · replace hv := (hv.1 w3).1 w4
      refine a_if_ne (tgt := 20) eX8_like_14 (by decide) (fun _ => ?_) (fun h => absurd h (by decide))
      refine a_aload_n eX8_like_20 rfl ?_
      refine gX8_4 eX8_like_21 fl_X8_19 ?_
      refine a_iload_n eX8_like_24 rfl ?_
      obtain ⟨h1, hv⟩ := hv
      refine a_iald eX8_like_25 sA104 kA104 h1 ?_
      refine a_if_ge (tgt := 33) eX8_like_26 (by decide) (fun w2 => ?_) (fun w2 => ?_)
      · replace hv := hv.1 w2
        refine a_iconst (v := (-1)) eX8_like_33 (by decide) ?_
        refine a_istore_n (vs' := [some (.ref (G.1 100)), some (.int v1), some (.int v2), some (.int (-1)), none, none, none]) eX8_like_34 rfl (Nat.le_of_ble_eq_true rfl) rfl ?_
        refine a_iconst (v := (-1)) eX8_like_35 (by decide) ?_
        refine a_istore (vs' := [some (.ref (G.1 100)), some (.int v1), some (.int v2), some (.int (-1)), some (.int (-1)), none, none]) eX8_like_36 rfl (Nat.le_of_ble_eq_true rfl) rfl ?_
        refine a_iconst (v := 0) eX8_like_38 (by decide) ?_
        refine a_istore (vs' := [some (.ref (G.1 100)), some (.int v1), some (.int v2), some (.int (-1)), some (.int (-1)), some (.int 0), none]) eX8_like_39 rfl (Nat.le_of_ble_eq_true rfl) rfl ?_
        exact a_weak [true, true, true, true, true, true, false] rfl rfl hv
      · replace hv := hv.2 w2
        refine a_ldcw eX8_like_29 kc_X8_336 ?_
        exact a_iret eX8_like_32 rfl rfl hv
    · replace hv := (hv.1 w3).2 w4
      refine a_if_ne (tgt := 20) eX8_like_14 (by decide) (fun h => absurd h (by decide)) (fun _ => ?_)
      refine a_ldc eX8_like_17 kc_X8_117 ?_
      exact a_iret eX8_like_19 rfl rfl hv
    · replace hv := hv.2 w3
      refine a_if_ne (tgt := 20) eX8_like_14 (by decide) (fun h => absurd h (by decide)) (fun _ => ?_)
      refine a_ldc eX8_like_17 kc_X8_117 ?_
      exact a_iret eX8_like_19 rfl rfl hv
  · replace hv := (hv.1 w5).2 w6
    refine a_iret eX8_isSheet_9 rfl rfl (ret_i ?_)
    refine a_if_eq (tgt := 17) eX8_like_4 (by decide) (fun _ => ?_) (fun h => absurd h (by decide))
    refine a_ldc eX8_like_17 kc_X8_117 ?_
    exact a_iret eX8_like_19 rfl rfl hv
  · replace hv := hv.2 w5
    refine a_iret eX8_isSheet_9 rfl rfl (ret_i ?_)
    refine a_if_eq (tgt := 17) eX8_like_4 (by decide) (fun _ => ?_) (fun h => absurd h (by decide))
    refine a_ldc eX8_like_17 kc_X8_117 ?_
    exact a_iret eX8_like_19 rfl rfl hv
theorem bX8_like_41 {l : Launch} {G : GT} {d : Nat} {M : Mem} {R : Option Value → Mem → Prop} {v1 : Int32} {v2 : Int32} {v3 : Int32} {v4 : Int32} {v5 : Int32} (hv : ((M 101 0) ≤ v5 → (0 ≤ v3 → (v2 = 0 → R (some (.int v3)) M) ∧ (¬ (v2 = 0) → R (some (.int v4)) M)) ∧ (¬ (0 ≤ v3) → R (some (.int (-1000000005))) M)) ∧ (¬ ((M 101 0) ≤ v5) → Tr l G (d + 3) mX8_likeOnes [.ref (G.1 100), .int v1, .int v5] M (kI fun q M' => At l G (d + 4) mX8_like 59 [some (.ref (G.1 100)), some (.int v1), some (.int v2), some (.int v3), some (.int v4), some (.int v5), none] [.int q] M' R))) : At l G (d + 4) mX8_like 41 [some (.ref (G.1 100)), some (.int v1), some (.int v2), some (.int v3), some (.int v4), some (.int v5), none] [] M R := by
  refine a_iload eX8_like_41 rfl ?_
  refine a_aload_n eX8_like_43 rfl ?_
  refine gX8_0 eX8_like_44 fl_X8_7 ?_
  refine a_iconst (v := 0) eX8_like_47 (by decide) ?_
  refine a_ialdc 0 eX8_like_48 sA101 kA101 (by decide) (by decide) ?_
  refine a_icmp_ge (tgt := 97) eX8_like_49 (by decide) (fun w1 => ?_) (fun w1 => ?_)
  · replace hv := hv.1 w1
    refine a_iload_n eX8_like_97 rfl ?_
    refine a_if_ge (tgt := 106) eX8_like_98 (by decide) (fun w2 => ?_) (fun w2 => ?_)
    · replace hv := hv.1 w2
      refine a_iload_n eX8_like_106 rfl ?_
      refine a_if_ne (tgt := 114) eX8_like_107 (by decide) (fun w3 => ?_) (fun w3 => ?_)
      · replace hv := hv.2 w3
        refine a_iload eX8_like_114 rfl ?_
        exact a_iret eX8_like_116 rfl rfl hv
      · replace hv := hv.1 w3
        refine a_iload_n eX8_like_110 rfl ?_
        refine a_goto (tgt := 116) eX8_like_111 (by decide) ?_
        exact a_iret eX8_like_116 rfl rfl hv
    · replace hv := hv.2 w2
      refine a_ldc eX8_like_101 kc_X8_67 ?_
      refine a_goto (tgt := 116) eX8_like_103 (by decide) ?_
      exact a_iret eX8_like_116 rfl rfl hv
  · replace hv := hv.2 w1
    refine a_aload_n eX8_like_52 rfl ?_
    refine a_iload_n eX8_like_53 rfl ?_
    refine a_iload eX8_like_54 rfl ?_
    exact qX8_342 rfl eX8_like_56 (Nat.le_of_ble_eq_true rfl) (tr_I [true, true, true, true, true, true, false] rfl rfl hv)
theorem bX8_like_59 {l : Launch} {G : GT} {d : Nat} {M : Mem} {R : Option Value → Mem → Prop} {v1 : Int32} {v2 : Int32} {v3 : Int32} {v4 : Int32} {v5 : Int32} {r : Int32} (hv : (r ≤ v4 → (r ≤ v4 → At l G (d + 4) mX8_like 41 [some (.ref (G.1 100)), some (.int v1), some (.int v2), some (.int v3), some (.int v4), some (.int (v5 + 1)), none] [] M R) ∧ (¬ (r ≤ v4) → At l G (d + 4) mX8_like 41 [some (.ref (G.1 100)), some (.int v1), some (.int v2), some (.int v3), some (.int r), some (.int (v5 + 1)), none] [] M R)) ∧ (¬ (r ≤ v4) → (r ≤ v4 → At l G (d + 4) mX8_like 41 [some (.ref (G.1 100)), some (.int v1), some (.int v2), some (.int v5), some (.int v4), some (.int (v5 + 1)), none] [] M R) ∧ (¬ (r ≤ v4) → At l G (d + 4) mX8_like 41 [some (.ref (G.1 100)), some (.int v1), some (.int v2), some (.int v5), some (.int r), some (.int (v5 + 1)), none] [] M R))) : At l G (d + 4) mX8_like 59 [some (.ref (G.1 100)), some (.int v1), some (.int v2), some (.int v3), some (.int v4), some (.int v5), none] [.int r] M R := by
  refine a_istore (vs' := [some (.ref (G.1 100)), some (.int v1), some (.int v2), some (.int v3), some (.int v4), some (.int v5), some (.int r)]) eX8_like_59 rfl (Nat.le_of_ble_eq_true rfl) rfl ?_
  refine a_iload eX8_like_61 rfl ?_
  refine a_iload eX8_like_63 rfl ?_
  refine a_icmp_le (tgt := 73) eX8_like_65 (by decide) (fun w1 => ?_) (fun w1 => ?_)
  · replace hv := hv.1 w1
    refine a_iload_n eX8_like_73 rfl ?_
    refine a_istore_n (vs' := [some (.ref (G.1 100)), some (.int v1), some (.int v2), some (.int v3), some (.int v4), some (.int v5), some (.int r)]) eX8_like_74 rfl (Nat.le_of_ble_eq_true rfl) rfl ?_
    refine a_iload eX8_like_75 rfl ?_
    refine a_iload eX8_like_77 rfl ?_
    refine a_icmp_le (tgt := 87) eX8_like_79 (by decide) (fun w2 => ?_) (fun w2 => ?_)
    · replace hv := hv.1 w2
      refine a_iload eX8_like_87 rfl ?_
      refine a_istore (vs' := [some (.ref (G.1 100)), some (.int v1), some (.int v2), some (.int v3), some (.int v4), some (.int v5), some (.int r)]) eX8_like_89 rfl (Nat.le_of_ble_eq_true rfl) rfl ?_
      refine a_iinc (v := 1) (vs' := [some (.ref (G.1 100)), some (.int v1), some (.int v2), some (.int v3), some (.int v4), some (.int (v5 + 1)), some (.int r)]) eX8_like_91 rfl rfl (by decide) rfl ?_
      refine a_goto (tgt := 41) eX8_like_94 (by decide) ?_
      exact a_weak [true, true, true, true, true, true, false] rfl rfl hv
    · replace hv := hv.2 w2
      refine a_iload eX8_like_82 rfl ?_
      refine a_goto (tgt := 89) eX8_like_84 (by decide) ?_
      refine a_istore (vs' := [some (.ref (G.1 100)), some (.int v1), some (.int v2), some (.int v3), some (.int r), some (.int v5), some (.int r)]) eX8_like_89 rfl (Nat.le_of_ble_eq_true rfl) rfl ?_
      refine a_iinc (v := 1) (vs' := [some (.ref (G.1 100)), some (.int v1), some (.int v2), some (.int v3), some (.int r), some (.int (v5 + 1)), some (.int r)]) eX8_like_91 rfl rfl (by decide) rfl ?_
      refine a_goto (tgt := 41) eX8_like_94 (by decide) ?_
      exact a_weak [true, true, true, true, true, true, false] rfl rfl hv
  · replace hv := hv.2 w1
    refine a_iload eX8_like_68 rfl ?_
    refine a_goto (tgt := 74) eX8_like_70 (by decide) ?_
    refine a_istore_n (vs' := [some (.ref (G.1 100)), some (.int v1), some (.int v2), some (.int v5), some (.int v4), some (.int v5), some (.int r)]) eX8_like_74 rfl (Nat.le_of_ble_eq_true rfl) rfl ?_
    refine a_iload eX8_like_75 rfl ?_
    refine a_iload eX8_like_77 rfl ?_
    refine a_icmp_le (tgt := 87) eX8_like_79 (by decide) (fun w3 => ?_) (fun w3 => ?_)
    · replace hv := hv.1 w3
      refine a_iload eX8_like_87 rfl ?_
      refine a_istore (vs' := [some (.ref (G.1 100)), some (.int v1), some (.int v2), some (.int v5), some (.int v4), some (.int v5), some (.int r)]) eX8_like_89 rfl (Nat.le_of_ble_eq_true rfl) rfl ?_
      refine a_iinc (v := 1) (vs' := [some (.ref (G.1 100)), some (.int v1), some (.int v2), some (.int v5), some (.int v4), some (.int (v5 + 1)), some (.int r)]) eX8_like_91 rfl rfl (by decide) rfl ?_
      refine a_goto (tgt := 41) eX8_like_94 (by decide) ?_
      exact a_weak [true, true, true, true, true, true, false] rfl rfl hv
    · replace hv := hv.2 w3
      refine a_iload eX8_like_82 rfl ?_
      refine a_goto (tgt := 89) eX8_like_84 (by decide) ?_
      refine a_istore (vs' := [some (.ref (G.1 100)), some (.int v1), some (.int v2), some (.int v5), some (.int r), some (.int v5), some (.int r)]) eX8_like_89 rfl (Nat.le_of_ble_eq_true rfl) rfl ?_
      refine a_iinc (v := 1) (vs' := [some (.ref (G.1 100)), some (.int v1), some (.int v2), some (.int v5), some (.int r), some (.int (v5 + 1)), some (.int r)]) eX8_like_91 rfl rfl (by decide) rfl ?_
      refine a_goto (tgt := 41) eX8_like_94 (by decide) ?_
      exact a_weak [true, true, true, true, true, true, false] rfl rfl hv
theorem tX8_copy {l : Launch} {G : GT} {d : Nat} {M : Mem} {R : Option Value → Mem → Prop} {v1 : Int32} {v2 : Int32} {v3 : Int32} {v4 : Int32} {v5 : Int32} (hv : (0 ≤ v1 → (v1 ≤ 3 → (0 ≤ v3 → (v3 ≤ 3 → vp_in v1 4 ∧ ((M 104 (ix v1)) < 0 → R (some (.int (-1000000011))) M) ∧ (¬ ((M 104 (ix v1)) < 0) → vp_in v3 4 ∧ (0 ≤ (M 104 (ix v3)) → vp_in v1 4 ∧ vp_in v3 4 ∧ ((M 104 (ix v1)) = (M 104 (ix v3)) → (v2 < 0 → R (some (.int (-1000000013))) M) ∧ (¬ (v2 < 0) → (v4 < 0 → R (some (.int (-1000000013))) M) ∧ (¬ (v4 < 0) → (v5 < 0 → R (some (.int (-1000000013))) M) ∧ (¬ (v5 < 0) → vp_in v1 4 ∧ (0 < (lg_cmp (v2.toInt64 + v5.toInt64) ((M 105 (ix v1)).toInt64)) → R (some (.int (-1000000013))) M) ∧ (¬ (0 < (lg_cmp (v2.toInt64 + v5.toInt64) ((M 105 (ix v1)).toInt64))) → vp_in v3 4 ∧ ((lg_cmp (v4.toInt64 + v5.toInt64) ((M 105 (ix v3)).toInt64)) ≤ 0 → At l G (d + 4) mX8_copy 113 [some (.ref (G.1 100)), some (.int v1), some (.int v2), some (.int v3), some (.int v4), some (.int v5), some (.int 0)] [] M R) ∧ (¬ ((lg_cmp (v4.toInt64 + v5.toInt64) ((M 105 (ix v3)).toInt64)) ≤ 0) → R (some (.int (-1000000013))) M)))))) ∧ (¬ ((M 104 (ix v1)) = (M 104 (ix v3))) → R (some (.int (-1000000012))) M)) ∧ (¬ (0 ≤ (M 104 (ix v3))) → R (some (.int (-1000000011))) M))) ∧ (¬ (v3 ≤ 3) → R (some (.int (-1000000001))) M)) ∧ (¬ (0 ≤ v3) → R (some (.int (-1000000001))) M)) ∧ (¬ (v1 ≤ 3) → R (some (.int (-1000000001))) M)) ∧ (¬ (0 ≤ v1) → R (some (.int (-1000000001))) M)) : Tr l G (d + 4) mX8_copy [.ref (G.1 100), .int v1, .int v2, .int v3, .int v4, .int v5] M R := by
  refine Tr.of rfl (Nat.le_of_ble_eq_true rfl) (vs := [some (.ref (G.1 100)), some (.int v1), some (.int v2), some (.int v3), some (.int v4), some (.int v5), none]) rfl ?_
  refine a_iload_n eX8_copy_0 rfl ?_
  refine qX8_330 rfl eX8_copy_1 (Nat.le_of_ble_eq_true rfl) ?_
  refine Tr.of rfl (Nat.le_of_ble_eq_true rfl) (vs := [some (.int v1)]) rfl ?_
  refine a_iload_n eX8_isSheet_0 rfl ?_
  refine a_i2l eX8_isSheet_1 ?_
  refine a_lconsti 0 eX8_isSheet_2 (by decide) ?_
  refine a_ldc2i 3 eX8_isSheet_3 kl_X8_157 (by decide) ?_
  refine qX8_68 rfl eX8_isSheet_6 (Nat.le_of_ble_eq_true rfl) ?_
  refine in_isIn (v := v1) (lo := 0) (hi := 3) ⟨fun w17 => ⟨fun w18 => ret_i ?_, fun w18 => ret_i ?_⟩, fun w17 => ret_i ?_⟩
  · replace hv := (hv.1 w17).1 w18
    refine a_iret eX8_isSheet_9 rfl rfl (ret_i ?_)
    refine a_if_eq (tgt := 14) eX8_copy_4 (by decide) (fun h => absurd h (by decide)) (fun _ => ?_)
    refine a_iload_n eX8_copy_7 rfl ?_
    refine qX8_330 rfl eX8_copy_8 (Nat.le_of_ble_eq_true rfl) ?_
    refine Tr.of rfl (Nat.le_of_ble_eq_true rfl) (vs := [some (.int v3)]) rfl ?_
    refine a_iload_n eX8_isSheet_0 rfl ?_
    refine a_i2l eX8_isSheet_1 ?_
    refine a_lconsti 0 eX8_isSheet_2 (by decide) ?_
    refine a_ldc2i 3 eX8_isSheet_3 kl_X8_157 (by decide) ?_
    refine qX8_68 rfl eX8_isSheet_6 (Nat.le_of_ble_eq_true rfl) ?_
    refine in_isIn (v := v3) (lo := 0) (hi := 3) ⟨fun w15 => ⟨fun w16 => ret_i ?_, fun w16 => ret_i ?_⟩, fun w15 => ret_i ?_⟩
    · replace hv := (hv.1 w15).1 w16
      refine a_iret eX8_isSheet_9 rfl rfl (ret_i ?_)
      refine a_if_ne (tgt := 17) eX8_copy_11 (by decide) (fun _ => ?_) (fun h => absurd h (by decide))
      refine a_aload_n eX8_copy_17 rfl ?_
      refine gX8_4 eX8_copy_18 fl_X8_19 ?_
      refine a_iload_n eX8_copy_21 rfl ?_
      obtain ⟨h1, hv⟩ := hv
      refine a_iald eX8_copy_22 sA104 kA104 h1 ?_
      refine a_if_lt (tgt := 35) eX8_copy_23 (by decide) (fun w2 => ?_) (fun w2 => ?_)
      · replace hv := hv.1 w2
        refine a_ldcw eX8_copy_35 kc_X8_336 ?_
        exact a_iret eX8_copy_38 rfl rfl hv
      · replace hv := hv.2 w2
        refine a_aload_n eX8_copy_26 rfl ?_
        refine gX8_4 eX8_copy_27 fl_X8_19 ?_
        refine a_iload_n eX8_copy_30 rfl ?_
        obtain ⟨h3, hv⟩ := hv
        refine a_iald eX8_copy_31 sA104 kA104 h3 ?_
        refine a_if_ge (tgt := 39) eX8_copy_32 (by decide) (fun w4 => ?_) (fun w4 => ?_)
        · replace hv := hv.1 w4
          refine a_aload_n eX8_copy_39 rfl ?_
          refine gX8_4 eX8_copy_40 fl_X8_19 ?_
          refine a_iload_n eX8_copy_43 rfl ?_
          obtain ⟨h5, hv⟩ := hv
          refine a_iald eX8_copy_44 sA104 kA104 h5 ?_
          refine a_aload_n eX8_copy_45 rfl ?_
          refine gX8_4 eX8_copy_46 fl_X8_19 ?_
          refine a_iload_n eX8_copy_49 rfl ?_
          obtain ⟨h6, hv⟩ := hv
          refine a_iald eX8_copy_50 sA104 kA104 h6 ?_
          refine a_icmp_eq (tgt := 57) eX8_copy_51 (by decide) (fun w7 => ?_) (fun w7 => ?_)
          · replace hv := hv.1 w7
            refine a_iload_n eX8_copy_57 rfl ?_
            refine a_if_lt (tgt := 106) eX8_copy_58 (by decide) (fun w8 => ?_) (fun w8 => ?_)
            · replace hv := hv.1 w8
              refine a_ldcw eX8_copy_106 kc_X8_337 ?_
              exact a_iret eX8_copy_109 rfl rfl hv
            · replace hv := hv.2 w8
              refine a_iload eX8_copy_61 rfl ?_
              refine a_if_lt (tgt := 106) eX8_copy_63 (by decide) (fun w9 => ?_) (fun w9 => ?_)
              · replace hv := hv.1 w9
                refine a_ldcw eX8_copy_106 kc_X8_337 ?_
                exact a_iret eX8_copy_109 rfl rfl hv
              · replace hv := hv.2 w9
                refine a_iload eX8_copy_66 rfl ?_
                refine a_if_lt (tgt := 106) eX8_copy_68 (by decide) (fun w10 => ?_) (fun w10 => ?_)
                · replace hv := hv.1 w10
                  refine a_ldcw eX8_copy_106 kc_X8_337 ?_
                  exact a_iret eX8_copy_109 rfl rfl hv
                · replace hv := hv.2 w10
                  refine a_iload_n eX8_copy_71 rfl ?_
                  refine a_i2l eX8_copy_72 ?_
                  refine a_iload eX8_copy_73 rfl ?_
                  refine a_i2l eX8_copy_75 ?_
                  refine a_ladd eX8_copy_76 ?_
                  refine a_aload_n eX8_copy_77 rfl ?_
                  refine gX8_5 eX8_copy_78 fl_X8_22 ?_
                  refine a_iload_n eX8_copy_81 rfl ?_
                  obtain ⟨h11, hv⟩ := hv
                  refine a_iald eX8_copy_82 sA105 kA105 h11 ?_
                  refine a_i2l eX8_copy_83 ?_
                  refine a_lcmp eX8_copy_84 ?_
                  refine a_if_gt (tgt := 106) eX8_copy_85 (by decide) (fun w12 => ?_) (fun w12 => ?_)
                  · replace hv := hv.1 w12
                    refine a_ldcw eX8_copy_106 kc_X8_337 ?_
                    exact a_iret eX8_copy_109 rfl rfl hv
                  · replace hv := hv.2 w12
                    refine a_iload eX8_copy_88 rfl ?_
                    refine a_i2l eX8_copy_90 ?_
                    refine a_iload eX8_copy_91 rfl ?_
                    refine a_i2l eX8_copy_93 ?_
                    refine a_ladd eX8_copy_94 ?_
                    refine a_aload_n eX8_copy_95 rfl ?_
                    refine gX8_5 eX8_copy_96 fl_X8_22 ?_
                    refine a_iload_n eX8_copy_99 rfl ?_
                    obtain ⟨h13, hv⟩ := hv
                    refine a_iald eX8_copy_100 sA105 kA105 h13 ?_
                    refine a_i2l eX8_copy_101 ?_
                    refine a_lcmp eX8_copy_102 ?_
                    refine a_if_le (tgt := 110) eX8_copy_103 (by decide) (fun w14 => ?_) (fun w14 => ?_)
                    · replace hv := hv.1 w14
                      refine a_iconst (v := 0) eX8_copy_110 (by decide) ?_
                      refine a_istore (vs' := [some (.ref (G.1 100)), some (.int v1), some (.int v2), some (.int v3), some (.int v4), some (.int v5), some (.int 0)]) eX8_copy_111 rfl (Nat.le_of_ble_eq_true rfl) rfl ?_
                      exact a_weak [true, true, true, true, true, true, true] rfl rfl hv
                    · replace hv := hv.2 w14
                      refine a_ldcw eX8_copy_106 kc_X8_337 ?_
                      exact a_iret eX8_copy_109 rfl rfl hv
          · replace hv := hv.2 w7
            refine a_ldc eX8_copy_54 kc_X8_140 ?_
            exact a_iret eX8_copy_56 rfl rfl hv
        · replace hv := hv.2 w4
          refine a_ldcw eX8_copy_35 kc_X8_336 ?_
          exact a_iret eX8_copy_38 rfl rfl hv
    · replace hv := (hv.1 w15).2 w16
      refine a_iret eX8_isSheet_9 rfl rfl (ret_i ?_)
      refine a_if_ne (tgt := 17) eX8_copy_11 (by decide) (fun h => absurd h (by decide)) (fun _ => ?_)
      refine a_ldc eX8_copy_14 kc_X8_117 ?_
      exact a_iret eX8_copy_16 rfl rfl hv
    · replace hv := hv.2 w15
      refine a_iret eX8_isSheet_9 rfl rfl (ret_i ?_)
      refine a_if_ne (tgt := 17) eX8_copy_11 (by decide) (fun h => absurd h (by decide)) (fun _ => ?_)
      refine a_ldc eX8_copy_14 kc_X8_117 ?_
      exact a_iret eX8_copy_16 rfl rfl hv
  · replace hv := (hv.1 w17).2 w18
    refine a_iret eX8_isSheet_9 rfl rfl (ret_i ?_)
    refine a_if_eq (tgt := 14) eX8_copy_4 (by decide) (fun _ => ?_) (fun h => absurd h (by decide))
    refine a_ldc eX8_copy_14 kc_X8_117 ?_
    exact a_iret eX8_copy_16 rfl rfl hv
  · replace hv := hv.2 w17
    refine a_iret eX8_isSheet_9 rfl rfl (ret_i ?_)
    refine a_if_eq (tgt := 14) eX8_copy_4 (by decide) (fun _ => ?_) (fun h => absurd h (by decide))
    refine a_ldc eX8_copy_14 kc_X8_117 ?_
    exact a_iret eX8_copy_16 rfl rfl hv
theorem bX8_copy_113 {l : Launch} {G : GT} {d : Nat} {M : Mem} {R : Option Value → Mem → Prop} {v1 : Int32} {v2 : Int32} {v3 : Int32} {v4 : Int32} {v5 : Int32} {v6 : Int32} (hv : (v5 ≤ v6 → At l G (d + 4) mX8_copy 150 [some (.ref (G.1 100)), none, none, some (.int v3), some (.int v4), some (.int v5), some (.int 0)] [] M R) ∧ (¬ (v5 ≤ v6) → vp_in (((24 * v1) + v2) + v6) 96 ∧ vp_in v6 24 ∧ At l G (d + 4) mX8_copy 113 [some (.ref (G.1 100)), some (.int v1), some (.int v2), some (.int v3), some (.int v4), some (.int v5), some (.int (v6 + 1))] [] (um M 117 (ix v6) (M 106 (ix (((24 * v1) + v2) + v6)))) R)) : At l G (d + 4) mX8_copy 113 [some (.ref (G.1 100)), some (.int v1), some (.int v2), some (.int v3), some (.int v4), some (.int v5), some (.int v6)] [] M R := by
  refine a_iload eX8_copy_113 rfl ?_
  refine a_iload eX8_copy_115 rfl ?_
  refine a_icmp_ge (tgt := 147) eX8_copy_117 (by decide) (fun w1 => ?_) (fun w1 => ?_)
  · replace hv := hv.1 w1
    refine a_iconst (v := 0) eX8_copy_147 (by decide) ?_
    refine a_istore (vs' := [some (.ref (G.1 100)), some (.int v1), some (.int v2), some (.int v3), some (.int v4), some (.int v5), some (.int 0)]) eX8_copy_148 rfl (Nat.le_of_ble_eq_true rfl) rfl ?_
    exact a_weak [true, false, false, true, true, true, true] rfl rfl hv
  · replace hv := hv.2 w1
    refine a_aload_n eX8_copy_120 rfl ?_
    refine gX8_28 eX8_copy_121 fl_X8_58 ?_
    refine a_iload eX8_copy_124 rfl ?_
    refine a_aload_n eX8_copy_126 rfl ?_
    refine gX8_6 eX8_copy_127 fl_X8_25 ?_
    refine a_bipush (v := 24) eX8_copy_130 (by decide) ?_
    refine a_iload_n eX8_copy_132 rfl ?_
    refine a_imul eX8_copy_133 ?_
    refine a_iload_n eX8_copy_134 rfl ?_
    refine a_iadd eX8_copy_135 ?_
    refine a_iload eX8_copy_136 rfl ?_
    refine a_iadd eX8_copy_138 ?_
    obtain ⟨h2, hv⟩ := hv
    refine a_iald eX8_copy_139 sA106 kA106 h2 ?_
    obtain ⟨h3, hv⟩ := hv
    refine a_iast eX8_copy_140 sA117 kA117 h3 ?_
    refine a_iinc (v := 1) (vs' := [some (.ref (G.1 100)), some (.int v1), some (.int v2), some (.int v3), some (.int v4), some (.int v5), some (.int (v6 + 1))]) eX8_copy_141 rfl rfl (by decide) rfl ?_
    refine a_goto (tgt := 113) eX8_copy_144 (by decide) ?_
    exact a_weak [true, true, true, true, true, true, true] rfl rfl hv
theorem bX8_copy_150 {l : Launch} {G : GT} {d : Nat} {M : Mem} {R : Option Value → Mem → Prop} {v3 : Int32} {v4 : Int32} {v5 : Int32} {v6 : Int32} (hv : (v5 ≤ v6 → R (some (.int v5)) M) ∧ (¬ (v5 ≤ v6) → vp_in v6 24 ∧ vp_in (((24 * v3) + v4) + v6) 96 ∧ At l G (d + 4) mX8_copy 150 [some (.ref (G.1 100)), none, none, some (.int v3), some (.int v4), some (.int v5), some (.int (v6 + 1))] [] (um M 106 (ix (((24 * v3) + v4) + v6)) (M 117 (ix v6))) R)) : At l G (d + 4) mX8_copy 150 [some (.ref (G.1 100)), none, none, some (.int v3), some (.int v4), some (.int v5), some (.int v6)] [] M R := by
  refine a_iload eX8_copy_150 rfl ?_
  refine a_iload eX8_copy_152 rfl ?_
  refine a_icmp_ge (tgt := 185) eX8_copy_154 (by decide) (fun w1 => ?_) (fun w1 => ?_)
  · replace hv := hv.1 w1
    refine a_iload eX8_copy_185 rfl ?_
    exact a_iret eX8_copy_187 rfl rfl hv
  · replace hv := hv.2 w1
    refine a_aload_n eX8_copy_157 rfl ?_
    refine gX8_6 eX8_copy_158 fl_X8_25 ?_
    refine a_bipush (v := 24) eX8_copy_161 (by decide) ?_
    refine a_iload_n eX8_copy_163 rfl ?_
    refine a_imul eX8_copy_164 ?_
    refine a_iload eX8_copy_165 rfl ?_
    refine a_iadd eX8_copy_167 ?_
    refine a_iload eX8_copy_168 rfl ?_
    refine a_iadd eX8_copy_170 ?_
    refine a_aload_n eX8_copy_171 rfl ?_
    refine gX8_28 eX8_copy_172 fl_X8_58 ?_
    refine a_iload eX8_copy_175 rfl ?_
    obtain ⟨h2, hv⟩ := hv
    refine a_iald eX8_copy_177 sA117 kA117 h2 ?_
    obtain ⟨h3, hv⟩ := hv
    refine a_iast eX8_copy_178 sA106 kA106 h3 ?_
    refine a_iinc (v := 1) (vs' := [some (.ref (G.1 100)), none, none, some (.int v3), some (.int v4), some (.int v5), some (.int (v6 + 1))]) eX8_copy_179 rfl rfl (by decide) rfl ?_
    refine a_goto (tgt := 150) eX8_copy_182 (by decide) ?_
    exact a_weak [true, false, false, true, true, true, true] rfl rfl hv
theorem tX8_lay {l : Launch} {G : GT} {d : Nat} {M : Mem} {R : Option Value → Mem → Prop} {v1 : Int32} {v2 : Int32} {v3 : Int32} (hv : (v2 = 0 → At l G (d + 4) mX8_lay 34 [some (.ref (G.1 100)), some (.int v1), some (.int v2), some (.int v3), none, none, none] [] M R) ∧ (¬ (v2 = 0) → (v2 = 3 → At l G (d + 4) mX8_lay 34 [some (.ref (G.1 100)), some (.int v1), some (.int v2), some (.int v3), none, none, none] [] M R) ∧ (¬ (v2 = 3) → (v2 = 1 → (0 ≤ v3 → (v3 ≤ ((M 101 0) - 1) → At l G (d + 4) mX8_lay 34 [some (.ref (G.1 100)), some (.int v1), some (.int v2), some (.int v3), none, none, none] [] M R) ∧ (¬ (v3 ≤ ((M 101 0) - 1)) → At l G (d + 4) mX8_lay 22 [some (.ref (G.1 100)), some (.int v1), some (.int v2), some (.int v3), none, none, none] [] M R)) ∧ (¬ (0 ≤ v3) → At l G (d + 4) mX8_lay 22 [some (.ref (G.1 100)), some (.int v1), some (.int v2), some (.int v3), none, none, none] [] M R)) ∧ (¬ (v2 = 1) → At l G (d + 4) mX8_lay 22 [some (.ref (G.1 100)), some (.int v1), some (.int v2), some (.int v3), none, none, none] [] M R)))) : Tr l G (d + 4) mX8_lay [.ref (G.1 100), .int v1, .int v2, .int v3] M R := by
  refine Tr.of rfl (Nat.le_of_ble_eq_true rfl) (vs := [some (.ref (G.1 100)), some (.int v1), some (.int v2), some (.int v3), none, none, none]) rfl ?_
  refine a_iload_n eX8_lay_0 rfl ?_
  refine a_if_eq (tgt := 34) eX8_lay_1 (by decide) (fun w1 => ?_) (fun w1 => ?_)
  · replace hv := hv.1 w1
    exact a_weak [true, true, true, true, false, false, false] rfl rfl hv
  · replace hv := hv.2 w1
    refine a_iload_n eX8_lay_4 rfl ?_
    refine a_iconst (v := 3) eX8_lay_5 (by decide) ?_
    refine a_icmp_eq (tgt := 34) eX8_lay_6 (by decide) (fun w2 => ?_) (fun w2 => ?_)
    · replace hv := hv.1 w2
      exact a_weak [true, true, true, true, false, false, false] rfl rfl hv
    · replace hv := hv.2 w2
      refine a_iload_n eX8_lay_9 rfl ?_
      refine a_iconst (v := 1) eX8_lay_10 (by decide) ?_
      refine a_icmp_ne (tgt := 22) eX8_lay_11 (by decide) (fun w3 => ?_) (fun w3 => ?_)
      · replace hv := hv.2 w3
        exact a_weak [true, true, true, true, false, false, false] rfl rfl hv
      · replace hv := hv.1 w3
        refine a_aload_n eX8_lay_14 rfl ?_
        refine a_iload_n eX8_lay_15 rfl ?_
        refine qX8_123 rfl eX8_lay_16 (Nat.le_of_ble_eq_true rfl) ?_
        refine Tr.of rfl (Nat.le_of_ble_eq_true rfl) (vs := [some (.ref (G.1 100)), some (.int v3)]) rfl ?_
        refine a_iload_n eX8_isOne_0 rfl ?_
        refine a_i2l eX8_isOne_1 ?_
        refine a_lconsti 0 eX8_isOne_2 (by decide) ?_
        refine a_aload_n eX8_isOne_3 rfl ?_
        refine gX8_0 eX8_isOne_4 fl_X8_7 ?_
        refine a_iconst (v := 0) eX8_isOne_7 (by decide) ?_
        refine a_ialdc 0 eX8_isOne_8 sA101 kA101 (by decide) (by decide) ?_
        refine a_iconst (v := 1) eX8_isOne_9 (by decide) ?_
        refine a_isub eX8_isOne_10 ?_
        refine a_i2l eX8_isOne_11 ?_
        refine qX8_68 rfl eX8_isOne_12 (Nat.le_of_ble_eq_true rfl) ?_
        refine in_isIn (v := v3) (lo := 0) (hi := (M 101 0) - 1) ⟨fun w4 => ⟨fun w5 => ret_i ?_, fun w5 => ret_i ?_⟩, fun w4 => ret_i ?_⟩
        · replace hv := (hv.1 w4).1 w5
          refine a_iret eX8_isOne_15 rfl rfl (ret_i ?_)
          refine a_if_ne (tgt := 34) eX8_lay_19 (by decide) (fun _ => ?_) (fun h => absurd h (by decide))
          exact a_weak [true, true, true, true, false, false, false] rfl rfl hv
        · replace hv := (hv.1 w4).2 w5
          refine a_iret eX8_isOne_15 rfl rfl (ret_i ?_)
          refine a_if_ne (tgt := 34) eX8_lay_19 (by decide) (fun h => absurd h (by decide)) (fun _ => ?_)
          exact a_weak [true, true, true, true, false, false, false] rfl rfl hv
        · replace hv := hv.2 w4
          refine a_iret eX8_isOne_15 rfl rfl (ret_i ?_)
          refine a_if_ne (tgt := 34) eX8_lay_19 (by decide) (fun h => absurd h (by decide)) (fun _ => ?_)
          exact a_weak [true, true, true, true, false, false, false] rfl rfl hv
theorem bX8_lay_22 {l : Launch} {G : GT} {d : Nat} {M : Mem} {R : Option Value → Mem → Prop} {v1 : Int32} {v2 : Int32} {v3 : Int32} (hv : (v2 = 2 → (0 ≤ v3 → (v3 ≤ 3 → At l G (d + 4) mX8_lay 34 [some (.ref (G.1 100)), some (.int v1), some (.int v2), some (.int v3), none, none, none] [] M R) ∧ (¬ (v3 ≤ 3) → At l G (d + 4) mX8_lay 38 [some (.ref (G.1 100)), some (.int v1), some (.int v2), some (.int v3), none, none, none] [] M R)) ∧ (¬ (0 ≤ v3) → At l G (d + 4) mX8_lay 38 [some (.ref (G.1 100)), some (.int v1), some (.int v2), some (.int v3), none, none, none] [] M R)) ∧ (¬ (v2 = 2) → At l G (d + 4) mX8_lay 38 [some (.ref (G.1 100)), some (.int v1), some (.int v2), some (.int v3), none, none, none] [] M R)) : At l G (d + 4) mX8_lay 22 [some (.ref (G.1 100)), some (.int v1), some (.int v2), some (.int v3), none, none, none] [] M R := by
  refine a_iload_n eX8_lay_22 rfl ?_
  refine a_iconst (v := 2) eX8_lay_23 (by decide) ?_
  refine a_icmp_ne (tgt := 38) eX8_lay_24 (by decide) (fun w1 => ?_) (fun w1 => ?_)
  · replace hv := hv.2 w1
    exact a_weak [true, true, true, true, false, false, false] rfl rfl hv
  · replace hv := hv.1 w1
    refine a_iload_n eX8_lay_27 rfl ?_
    refine qX8_330 rfl eX8_lay_28 (Nat.le_of_ble_eq_true rfl) ?_
    refine Tr.of rfl (Nat.le_of_ble_eq_true rfl) (vs := [some (.int v3)]) rfl ?_
    refine a_iload_n eX8_isSheet_0 rfl ?_
    refine a_i2l eX8_isSheet_1 ?_
    refine a_lconsti 0 eX8_isSheet_2 (by decide) ?_
    refine a_ldc2i 3 eX8_isSheet_3 kl_X8_157 (by decide) ?_
    refine qX8_68 rfl eX8_isSheet_6 (Nat.le_of_ble_eq_true rfl) ?_
    refine in_isIn (v := v3) (lo := 0) (hi := 3) ⟨fun w2 => ⟨fun w3 => ret_i ?_, fun w3 => ret_i ?_⟩, fun w2 => ret_i ?_⟩
    · replace hv := (hv.1 w2).1 w3
      refine a_iret eX8_isSheet_9 rfl rfl (ret_i ?_)
      refine a_if_eq (tgt := 38) eX8_lay_31 (by decide) (fun h => absurd h (by decide)) (fun _ => ?_)
      exact a_weak [true, true, true, true, false, false, false] rfl rfl hv
    · replace hv := (hv.1 w2).2 w3
      refine a_iret eX8_isSheet_9 rfl rfl (ret_i ?_)
      refine a_if_eq (tgt := 38) eX8_lay_31 (by decide) (fun _ => ?_) (fun h => absurd h (by decide))
      exact a_weak [true, true, true, true, false, false, false] rfl rfl hv
    · replace hv := hv.2 w2
      refine a_iret eX8_isSheet_9 rfl rfl (ret_i ?_)
      refine a_if_eq (tgt := 38) eX8_lay_31 (by decide) (fun _ => ?_) (fun h => absurd h (by decide))
      exact a_weak [true, true, true, true, false, false, false] rfl rfl hv
theorem bX8_lay_38 {l : Launch} {G : GT} {d : Nat} {M : Mem} {R : Option Value → Mem → Prop} {v1 : Int32} {v2 : Int32} {v3 : Int32} (hv : At l G (d + 4) mX8_lay 39 [some (.ref (G.1 100)), some (.int v1), some (.int v2), some (.int v3), none, none, none] [.int 0] M R) : At l G (d + 4) mX8_lay 38 [some (.ref (G.1 100)), some (.int v1), some (.int v2), some (.int v3), none, none, none] [] M R := by
  refine a_iconst (v := 0) eX8_lay_38 (by decide) ?_
  exact a_weak [true, true, true, true, false, false, false] rfl rfl hv
theorem bX8_lay_39 {l : Launch} {G : GT} {d : Nat} {M : Mem} {R : Option Value → Mem → Prop} {v1 : Int32} {v2 : Int32} {v3 : Int32} {t0 : Int32} (hv : (0 ≤ v1 → (v1 ≤ 4 → (t0 = 0 → At l G (d + 4) mX8_lay 53 [none, none, none, none, none, none, none] [] M R) ∧ (¬ (t0 = 0) → (v2 = 2 → vp_in v3 4 ∧ (0 ≤ (M 104 (ix v3)) → At l G (d + 4) mX8_lay 74 [some (.ref (G.1 100)), some (.int v1), some (.int v2), some (.int v3), none, none, none] [] M R) ∧ (¬ (0 ≤ (M 104 (ix v3))) → R (some (.int (-1000000011))) M)) ∧ (¬ (v2 = 2) → At l G (d + 4) mX8_lay 74 [some (.ref (G.1 100)), some (.int v1), some (.int v2), some (.int v3), none, none, none] [] M R))) ∧ (¬ (v1 ≤ 4) → At l G (d + 4) mX8_lay 53 [none, none, none, none, none, none, none] [] M R)) ∧ (¬ (0 ≤ v1) → At l G (d + 4) mX8_lay 53 [none, none, none, none, none, none, none] [] M R)) : At l G (d + 4) mX8_lay 39 [some (.ref (G.1 100)), some (.int v1), some (.int v2), some (.int v3), none, none, none] [.int t0] M R := by
  refine a_istore (vs' := [some (.ref (G.1 100)), some (.int v1), some (.int v2), some (.int v3), some (.int t0), none, none]) eX8_lay_39 rfl (Nat.le_of_ble_eq_true rfl) rfl ?_
  refine a_iload_n eX8_lay_41 rfl ?_
  refine qX8_347 rfl eX8_lay_42 (Nat.le_of_ble_eq_true rfl) ?_
  refine Tr.of rfl (Nat.le_of_ble_eq_true rfl) (vs := [some (.int v1)]) rfl ?_
  refine a_iload_n eX8_isSlot_0 rfl ?_
  refine a_i2l eX8_isSlot_1 ?_
  refine a_lconsti 0 eX8_isSlot_2 (by decide) ?_
  refine a_ldc2i 4 eX8_isSlot_3 kl_X8_345 (by decide) ?_
  refine qX8_68 rfl eX8_isSlot_6 (Nat.le_of_ble_eq_true rfl) ?_
  refine in_isIn (v := v1) (lo := 0) (hi := 4) ⟨fun w5 => ⟨fun w6 => ret_i ?_, fun w6 => ret_i ?_⟩, fun w5 => ret_i ?_⟩
  · replace hv := (hv.1 w5).1 w6
    refine a_iret eX8_isSlot_9 rfl rfl (ret_i ?_)
    refine a_if_eq (tgt := 53) eX8_lay_45 (by decide) (fun h => absurd h (by decide)) (fun _ => ?_)
    refine a_iload eX8_lay_48 rfl ?_
    refine a_if_ne (tgt := 56) eX8_lay_50 (by decide) (fun w1 => ?_) (fun w1 => ?_)
    · replace hv := hv.2 w1
      refine a_iload_n eX8_lay_56 rfl ?_
      refine a_iconst (v := 2) eX8_lay_57 (by decide) ?_
      refine a_icmp_ne (tgt := 74) eX8_lay_58 (by decide) (fun w2 => ?_) (fun w2 => ?_)
      · replace hv := hv.2 w2
        exact a_weak [true, true, true, true, false, false, false] rfl rfl hv
      · replace hv := hv.1 w2
        refine a_aload_n eX8_lay_61 rfl ?_
        refine gX8_4 eX8_lay_62 fl_X8_19 ?_
        refine a_iload_n eX8_lay_65 rfl ?_
        obtain ⟨h3, hv⟩ := hv
        refine a_iald eX8_lay_66 sA104 kA104 h3 ?_
        refine a_if_ge (tgt := 74) eX8_lay_67 (by decide) (fun w4 => ?_) (fun w4 => ?_)
        · replace hv := hv.1 w4
          exact a_weak [true, true, true, true, false, false, false] rfl rfl hv
        · replace hv := hv.2 w4
          refine a_ldcw eX8_lay_70 kc_X8_336 ?_
          exact a_iret eX8_lay_73 rfl rfl hv
    · replace hv := hv.1 w1
      exact a_weak [false, false, false, false, false, false, false] rfl rfl hv
  · replace hv := (hv.1 w5).2 w6
    refine a_iret eX8_isSlot_9 rfl rfl (ret_i ?_)
    refine a_if_eq (tgt := 53) eX8_lay_45 (by decide) (fun _ => ?_) (fun h => absurd h (by decide))
    exact a_weak [false, false, false, false, false, false, false] rfl rfl hv
  · replace hv := hv.2 w5
    refine a_iret eX8_isSlot_9 rfl rfl (ret_i ?_)
    refine a_if_eq (tgt := 53) eX8_lay_45 (by decide) (fun _ => ?_) (fun h => absurd h (by decide))
    exact a_weak [false, false, false, false, false, false, false] rfl rfl hv
theorem bX8_lay_53 {l : Launch} {G : GT} {d : Nat} {M : Mem} {R : Option Value → Mem → Prop}  (hv : R (some (.int (-1000000001))) M) : At l G (d + 4) mX8_lay 53 [none, none, none, none, none, none, none] [] M R := by
  refine a_ldc eX8_lay_53 kc_X8_117 ?_
  exact a_iret eX8_lay_55 rfl rfl hv
theorem bX8_lay_74 {l : Launch} {G : GT} {d : Nat} {M : Mem} {R : Option Value → Mem → Prop} {v1 : Int32} {v2 : Int32} {v3 : Int32} (hv : vp_in v1 5 ∧ vp_in v1 5 ∧ (v2 = 1 → vp_in ((10 + (4 * v3)) + 0) 3084 ∧ At l G (d + 4) mX8_lay 109 [some (.ref (G.1 100)), some (.int v1), some (.int v2), some (.int v3), none, some (.int (M 107 (ix v1))), none] [.int ((um M 107 (ix v1) v2) 101 (ix ((10 + (4 * v3)) + 0))), .int v1, .ref (G.1 108)] (um M 107 (ix v1) v2) R) ∧ (¬ (v2 = 1) → At l G (d + 4) mX8_lay 109 [some (.ref (G.1 100)), some (.int v1), some (.int v2), some (.int v3), none, some (.int (M 107 (ix v1))), none] [.int v3, .int v1, .ref (G.1 108)] (um M 107 (ix v1) v2) R)) : At l G (d + 4) mX8_lay 74 [some (.ref (G.1 100)), some (.int v1), some (.int v2), some (.int v3), none, none, none] [] M R := by
  refine a_aload_n eX8_lay_74 rfl ?_
  refine gX8_7 eX8_lay_75 fl_X8_28 ?_
  refine a_iload_n eX8_lay_78 rfl ?_
  obtain ⟨h1, hv⟩ := hv
  refine a_iald eX8_lay_79 sA107 kA107 h1 ?_
  refine a_istore (vs' := [some (.ref (G.1 100)), some (.int v1), some (.int v2), some (.int v3), none, some (.int (M 107 (ix v1))), none]) eX8_lay_80 rfl (Nat.le_of_ble_eq_true rfl) rfl ?_
  refine a_aload_n eX8_lay_82 rfl ?_
  refine gX8_7 eX8_lay_83 fl_X8_28 ?_
  refine a_iload_n eX8_lay_86 rfl ?_
  refine a_iload_n eX8_lay_87 rfl ?_
  obtain ⟨h2, hv⟩ := hv
  refine a_iast eX8_lay_88 sA107 kA107 h2 ?_
  refine a_aload_n eX8_lay_89 rfl ?_
  refine gX8_8 eX8_lay_90 fl_X8_31 ?_
  refine a_iload_n eX8_lay_93 rfl ?_
  refine a_iload_n eX8_lay_94 rfl ?_
  refine a_iconst (v := 1) eX8_lay_95 (by decide) ?_
  refine a_icmp_ne (tgt := 108) eX8_lay_96 (by decide) (fun w3 => ?_) (fun w3 => ?_)
  · replace hv := hv.2 w3
    refine a_iload_n eX8_lay_108 rfl ?_
    exact a_weak [true, true, true, true, false, true, false] rfl rfl hv
  · replace hv := hv.1 w3
    refine a_aload_n eX8_lay_99 rfl ?_
    refine a_iload_n eX8_lay_100 rfl ?_
    refine a_iconst (v := 0) eX8_lay_101 (by decide) ?_
    refine qX8_86 rfl eX8_lay_102 (Nat.le_of_ble_eq_true rfl) ?_
    refine Tr.of rfl (Nat.le_of_ble_eq_true rfl) (vs := [some (.ref (G.1 100)), some (.int v3), some (.int 0)]) rfl ?_
    refine a_aload_n eX8_of_0 rfl ?_
    refine gX8_0 eX8_of_1 fl_X8_7 ?_
    refine a_bipush (v := 10) eX8_of_4 (by decide) ?_
    refine a_iconst (v := 4) eX8_of_6 (by decide) ?_
    refine a_iload_n eX8_of_7 rfl ?_
    refine a_imul eX8_of_8 ?_
    refine a_iadd eX8_of_9 ?_
    refine a_iload_n eX8_of_10 rfl ?_
    refine a_iadd eX8_of_11 ?_
    obtain ⟨h4, hv⟩ := hv
    refine a_iald eX8_of_12 sA101 kA101 h4 ?_
    refine a_iret eX8_of_13 rfl rfl (ret_i ?_)
    refine a_goto (tgt := 109) eX8_lay_105 (by decide) ?_
    exact a_weak [true, true, true, true, false, true, false] rfl rfl hv
theorem bX8_lay_109 {l : Launch} {G : GT} {d : Nat} {M : Mem} {R : Option Value → Mem → Prop} {v1 : Int32} {v2 : Int32} {v3 : Int32} {v5 : Int32} {t0 : Int32} {t1 : Int32} (hv : vp_in t1 5 ∧ (v2 = 1 → Tr l G (d + 3) mX8_worth [.ref (G.1 100), .int v3] (um M 108 (ix t1) t0) (kI fun q M' => At l G (d + 4) mX8_lay 125 [some (.ref (G.1 100)), some (.int v1), some (.int v2), some (.int v3), none, some (.int v5), none] [.int q, .int v1, .ref (G.1 109)] M' R)) ∧ (¬ (v2 = 1) → At l G (d + 4) mX8_lay 129 [some (.ref (G.1 100)), some (.int v1), some (.int v2), some (.int v3), none, some (.int v5), none] [.int 0, .int v1, .ref (G.1 109)] (um M 108 (ix t1) t0) R)) : At l G (d + 4) mX8_lay 109 [some (.ref (G.1 100)), some (.int v1), some (.int v2), some (.int v3), none, some (.int v5), none] [.int t0, .int t1, .ref (G.1 108)] M R := by
  obtain ⟨h1, hv⟩ := hv
  refine a_iast eX8_lay_109 sA108 kA108 h1 ?_
  refine a_aload_n eX8_lay_110 rfl ?_
  refine gX8_9 eX8_lay_111 fl_X8_34 ?_
  refine a_iload_n eX8_lay_114 rfl ?_
  refine a_iload_n eX8_lay_115 rfl ?_
  refine a_iconst (v := 1) eX8_lay_116 (by decide) ?_
  refine a_icmp_ne (tgt := 128) eX8_lay_117 (by decide) (fun w2 => ?_) (fun w2 => ?_)
  · replace hv := hv.2 w2
    refine a_iconst (v := 0) eX8_lay_128 (by decide) ?_
    exact a_weak [true, true, true, true, false, true, false] rfl rfl hv
  · replace hv := hv.1 w2
    refine a_aload_n eX8_lay_120 rfl ?_
    refine a_iload_n eX8_lay_121 rfl ?_
    exact qX8_134 rfl eX8_lay_122 (Nat.le_of_ble_eq_true rfl) (tr_I [true, true, true, true, false, true, false] rfl rfl hv)
theorem bX8_lay_125 {l : Launch} {G : GT} {d : Nat} {M : Mem} {R : Option Value → Mem → Prop} {v1 : Int32} {v2 : Int32} {v3 : Int32} {v5 : Int32} {r : Int32} {t1 : Int32} (hv : At l G (d + 4) mX8_lay 129 [some (.ref (G.1 100)), some (.int v1), some (.int v2), some (.int v3), none, some (.int v5), none] [.int r, .int t1, .ref (G.1 109)] M R) : At l G (d + 4) mX8_lay 125 [some (.ref (G.1 100)), some (.int v1), some (.int v2), some (.int v3), none, some (.int v5), none] [.int r, .int t1, .ref (G.1 109)] M R := by
  refine a_goto (tgt := 129) eX8_lay_125 (by decide) ?_
  exact a_weak [true, true, true, true, false, true, false] rfl rfl hv
theorem bX8_lay_129 {l : Launch} {G : GT} {d : Nat} {M : Mem} {R : Option Value → Mem → Prop} {v1 : Int32} {v2 : Int32} {v3 : Int32} {v5 : Int32} {t0 : Int32} {t1 : Int32} (hv : vp_in t1 5 ∧ (v2 = 2 → vp_in v3 4 ∧ vp_in v1 5 ∧ ∀ M5 : Mem, M5 = um (um M 109 (ix t1) t0) 110 (ix v1) ((um M 109 (ix t1) t0) 105 (ix v3)) → At l G (d + 4) mX8_lay 150 [some (.ref (G.1 100)), some (.int v1), none, some (.int v3), none, some (.int v5), some (.int 0)] [] M5 R) ∧ (¬ (v2 = 2) → At l G (d + 4) mX8_lay 187 [none, none, none, none, none, some (.int v5), none] [] (um M 109 (ix t1) t0) R)) : At l G (d + 4) mX8_lay 129 [some (.ref (G.1 100)), some (.int v1), some (.int v2), some (.int v3), none, some (.int v5), none] [.int t0, .int t1, .ref (G.1 109)] M R := by
  obtain ⟨h1, hv⟩ := hv
  refine a_iast eX8_lay_129 sA109 kA109 h1 ?_
  refine a_iload_n eX8_lay_130 rfl ?_
  refine a_iconst (v := 2) eX8_lay_131 (by decide) ?_
  refine a_icmp_ne (tgt := 187) eX8_lay_132 (by decide) (fun w2 => ?_) (fun w2 => ?_)
  · replace hv := hv.2 w2
    exact a_weak [false, false, false, false, false, true, false] rfl rfl hv
  · replace hv := hv.1 w2
    refine a_aload_n eX8_lay_135 rfl ?_
    refine gX8_10 eX8_lay_136 fl_X8_37 ?_
    refine a_iload_n eX8_lay_139 rfl ?_
    refine a_aload_n eX8_lay_140 rfl ?_
    refine gX8_5 eX8_lay_141 fl_X8_22 ?_
    refine a_iload_n eX8_lay_144 rfl ?_
    obtain ⟨h3, hv⟩ := hv
    refine a_iald eX8_lay_145 sA105 kA105 h3 ?_
    obtain ⟨h4, hv⟩ := hv
    refine a_iast eX8_lay_146 sA110 kA110 h4 ?_
    refine a_nm (fun M5 eM5 => ?_)
    replace hv := hv M5 eM5
    refine a_iconst (v := 0) eX8_lay_147 (by decide) ?_
    refine a_istore (vs' := [some (.ref (G.1 100)), some (.int v1), some (.int v2), some (.int v3), none, some (.int v5), some (.int 0)]) eX8_lay_148 rfl (Nat.le_of_ble_eq_true rfl) rfl ?_
    exact a_weak [true, true, false, true, false, true, true] rfl rfl hv
theorem bX8_lay_150 {l : Launch} {G : GT} {d : Nat} {M : Mem} {R : Option Value → Mem → Prop} {v1 : Int32} {v3 : Int32} {v5 : Int32} {v6 : Int32} (hv : (24 ≤ v6 → At l G (d + 4) mX8_lay 187 [none, none, none, none, none, some (.int v5), none] [] M R) ∧ (¬ (24 ≤ v6) → vp_in ((24 * v3) + v6) 96 ∧ vp_in ((24 * v1) + v6) 120 ∧ At l G (d + 4) mX8_lay 150 [some (.ref (G.1 100)), some (.int v1), none, some (.int v3), none, some (.int v5), some (.int (v6 + 1))] [] (um M 111 (ix ((24 * v1) + v6)) (M 106 (ix ((24 * v3) + v6)))) R)) : At l G (d + 4) mX8_lay 150 [some (.ref (G.1 100)), some (.int v1), none, some (.int v3), none, some (.int v5), some (.int v6)] [] M R := by
  refine a_iload eX8_lay_150 rfl ?_
  refine a_bipush (v := 24) eX8_lay_152 (by decide) ?_
  refine a_icmp_ge (tgt := 187) eX8_lay_154 (by decide) (fun w1 => ?_) (fun w1 => ?_)
  · replace hv := hv.1 w1
    exact a_weak [false, false, false, false, false, true, false] rfl rfl hv
  · replace hv := hv.2 w1
    refine a_aload_n eX8_lay_157 rfl ?_
    refine gX8_11 eX8_lay_158 fl_X8_40 ?_
    refine a_bipush (v := 24) eX8_lay_161 (by decide) ?_
    refine a_iload_n eX8_lay_163 rfl ?_
    refine a_imul eX8_lay_164 ?_
    refine a_iload eX8_lay_165 rfl ?_
    refine a_iadd eX8_lay_167 ?_
    refine a_aload_n eX8_lay_168 rfl ?_
    refine gX8_6 eX8_lay_169 fl_X8_25 ?_
    refine a_bipush (v := 24) eX8_lay_172 (by decide) ?_
    refine a_iload_n eX8_lay_174 rfl ?_
    refine a_imul eX8_lay_175 ?_
    refine a_iload eX8_lay_176 rfl ?_
    refine a_iadd eX8_lay_178 ?_
    obtain ⟨h2, hv⟩ := hv
    refine a_iald eX8_lay_179 sA106 kA106 h2 ?_
    obtain ⟨h3, hv⟩ := hv
    refine a_iast eX8_lay_180 sA111 kA111 h3 ?_
    refine a_iinc (v := 1) (vs' := [some (.ref (G.1 100)), some (.int v1), none, some (.int v3), none, some (.int v5), some (.int (v6 + 1))]) eX8_lay_181 rfl rfl (by decide) rfl ?_
    refine a_goto (tgt := 150) eX8_lay_184 (by decide) ?_
    exact a_weak [true, true, false, true, false, true, true] rfl rfl hv
theorem bX8_lay_187 {l : Launch} {G : GT} {d : Nat} {M : Mem} {R : Option Value → Mem → Prop} {v5 : Int32} (hv : R (some (.int v5)) M) : At l G (d + 4) mX8_lay 187 [none, none, none, none, none, some (.int v5), none] [] M R := by
  refine a_iload eX8_lay_187 rfl ?_
  exact a_iret eX8_lay_189 rfl rfl hv
theorem bX8_lay_34 {l : Launch} {G : GT} {d : Nat} {M : Mem} {R : Option Value → Mem → Prop} {v1 : Int32} {v2 : Int32} {v3 : Int32} (hv : At l G (d + 4) mX8_lay 39 [some (.ref (G.1 100)), some (.int v1), some (.int v2), some (.int v3), none, none, none] [.int 1] M R) : At l G (d + 4) mX8_lay 34 [some (.ref (G.1 100)), some (.int v1), some (.int v2), some (.int v3), none, none, none] [] M R := by
  refine a_iconst (v := 1) eX8_lay_34 (by decide) ?_
  refine a_goto (tgt := 39) eX8_lay_35 (by decide) ?_
  exact a_weak [true, true, true, true, false, false, false] rfl rfl hv
theorem tX8_ask {l : Launch} {G : GT} {d : Nat} {M : Mem} {R : Option Value → Mem → Prop} {v1 : Int32} {v2 : Int32} (hv : (0 ≤ v1 → (v1 ≤ 4 → (0 ≤ v2 → (v2 ≤ 5 → vp_in v1 5 ∧ ((M 107 (ix v1)) = 0 → R (some (.int (-1000000011))) M) ∧ (¬ ((M 107 (ix v1)) = 0) → vp_in v1 5 ∧ ((M 107 (ix v1)) = 1 → vp_in v1 5 ∧ ((M 108 (ix v1)) = v2 → vp_in v1 5 ∧ R (some (.int (M 109 (ix v1)))) M) ∧ (¬ ((M 108 (ix v1)) = v2) → (v2 = 0 → vp_in v1 5 ∧ R (some (.int (M 109 (ix v1)))) M) ∧ (¬ (v2 = 0) → (v2 = 1 → ((M 108 (ix v1)) = 3 → vp_in v1 5 ∧ R (some (.int (M 109 (ix v1)))) M) ∧ (¬ ((M 108 (ix v1)) = 3) → (v2 = 2 → ((M 108 (ix v1)) = 4 → vp_in v1 5 ∧ R (some (.int (M 109 (ix v1)))) M) ∧ (¬ ((M 108 (ix v1)) = 4) → R (some (.int (-1000000012))) M)) ∧ (¬ (v2 = 2) → R (some (.int (-1000000012))) M))) ∧ (¬ (v2 = 1) → (v2 = 2 → ((M 108 (ix v1)) = 4 → vp_in v1 5 ∧ R (some (.int (M 109 (ix v1)))) M) ∧ (¬ ((M 108 (ix v1)) = 4) → R (some (.int (-1000000012))) M)) ∧ (¬ (v2 = 2) → R (some (.int (-1000000012))) M))))) ∧ (¬ ((M 107 (ix v1)) = 1) → R (some (.int (-1000000012))) M))) ∧ (¬ (v2 ≤ 5) → R (some (.int (-1000000001))) M)) ∧ (¬ (0 ≤ v2) → R (some (.int (-1000000001))) M)) ∧ (¬ (v1 ≤ 4) → R (some (.int (-1000000001))) M)) ∧ (¬ (0 ≤ v1) → R (some (.int (-1000000001))) M)) : Tr l G (d + 4) mX8_ask [.ref (G.1 100), .int v1, .int v2] M R := by
  refine Tr.of rfl (Nat.le_of_ble_eq_true rfl) (vs := [some (.ref (G.1 100)), some (.int v1), some (.int v2)]) rfl ?_
  refine a_iload_n eX8_ask_0 rfl ?_
  refine qX8_347 rfl eX8_ask_1 (Nat.le_of_ble_eq_true rfl) ?_
  refine Tr.of rfl (Nat.le_of_ble_eq_true rfl) (vs := [some (.int v1)]) rfl ?_
  refine a_iload_n eX8_isSlot_0 rfl ?_
  refine a_i2l eX8_isSlot_1 ?_
  refine a_lconsti 0 eX8_isSlot_2 (by decide) ?_
  refine a_ldc2i 4 eX8_isSlot_3 kl_X8_345 (by decide) ?_
  refine qX8_68 rfl eX8_isSlot_6 (Nat.le_of_ble_eq_true rfl) ?_
  refine in_isIn (v := v1) (lo := 0) (hi := 4) ⟨fun w21 => ⟨fun w22 => ret_i ?_, fun w22 => ret_i ?_⟩, fun w21 => ret_i ?_⟩
  · replace hv := (hv.1 w21).1 w22
    refine a_iret eX8_isSlot_9 rfl rfl (ret_i ?_)
    refine a_if_eq (tgt := 19) eX8_ask_4 (by decide) (fun h => absurd h (by decide)) (fun _ => ?_)
    refine a_iload_n eX8_ask_7 rfl ?_
    refine a_i2l eX8_ask_8 ?_
    refine a_lconsti 0 eX8_ask_9 (by decide) ?_
    refine a_ldc2i 5 eX8_ask_10 kl_X8_109 (by decide) ?_
    refine qX8_68 rfl eX8_ask_13 (Nat.le_of_ble_eq_true rfl) ?_
    refine in_isIn (v := v2) (lo := 0) (hi := 5) ⟨fun w19 => ⟨fun w20 => ret_i ?_, fun w20 => ret_i ?_⟩, fun w19 => ret_i ?_⟩
    · replace hv := (hv.1 w19).1 w20
      refine a_if_ne (tgt := 22) eX8_ask_16 (by decide) (fun _ => ?_) (fun h => absurd h (by decide))
      refine a_aload_n eX8_ask_22 rfl ?_
      refine gX8_7 eX8_ask_23 fl_X8_28 ?_
      refine a_iload_n eX8_ask_26 rfl ?_
      obtain ⟨h1, hv⟩ := hv
      refine a_iald eX8_ask_27 sA107 kA107 h1 ?_
      refine a_if_ne (tgt := 35) eX8_ask_28 (by decide) (fun w2 => ?_) (fun w2 => ?_)
      · replace hv := hv.2 w2
        refine a_aload_n eX8_ask_35 rfl ?_
        refine gX8_7 eX8_ask_36 fl_X8_28 ?_
        refine a_iload_n eX8_ask_39 rfl ?_
        obtain ⟨h3, hv⟩ := hv
        refine a_iald eX8_ask_40 sA107 kA107 h3 ?_
        refine a_iconst (v := 1) eX8_ask_41 (by decide) ?_
        refine a_icmp_ne (tgt := 67) eX8_ask_42 (by decide) (fun w4 => ?_) (fun w4 => ?_)
        · replace hv := hv.2 w4
          refine a_ldc eX8_ask_67 kc_X8_140 ?_
          exact a_iret eX8_ask_69 rfl rfl hv
        · replace hv := hv.1 w4
          refine a_aload_n eX8_ask_45 rfl ?_
          refine gX8_8 eX8_ask_46 fl_X8_31 ?_
          refine a_iload_n eX8_ask_49 rfl ?_
          obtain ⟨h5, hv⟩ := hv
          refine a_iald eX8_ask_50 sA108 kA108 h5 ?_
          refine a_iload_n eX8_ask_51 rfl ?_
          refine qX8_137 rfl eX8_ask_52 (Nat.le_of_ble_eq_true rfl) ?_
          refine Tr.of rfl (Nat.le_of_ble_eq_true rfl) (vs := [some (.int (M 108 (ix v1))), some (.int v2)]) rfl ?_
          refine a_iload_n eX8_isOf_0 rfl ?_
          refine a_iload_n eX8_isOf_1 rfl ?_
          refine a_icmp_eq (tgt := 29) eX8_isOf_2 (by decide) (fun w6 => ?_) (fun w6 => ?_)
          · replace hv := hv.1 w6
            refine a_iconst (v := 1) eX8_isOf_29 (by decide) ?_
            refine a_goto (tgt := 34) eX8_isOf_30 (by decide) ?_
            refine a_iret eX8_isOf_34 rfl rfl (ret_i ?_)
            refine a_if_eq (tgt := 67) eX8_ask_55 (by decide) (fun h => absurd h (by decide)) (fun _ => ?_)
            refine a_aload_n eX8_ask_58 rfl ?_
            refine gX8_9 eX8_ask_59 fl_X8_34 ?_
            refine a_iload_n eX8_ask_62 rfl ?_
            obtain ⟨h7, hv⟩ := hv
            refine a_iald eX8_ask_63 sA109 kA109 h7 ?_
            refine a_goto (tgt := 69) eX8_ask_64 (by decide) ?_
            exact a_iret eX8_ask_69 rfl rfl hv
          · replace hv := hv.2 w6
            refine a_iload_n eX8_isOf_5 rfl ?_
            refine a_if_eq (tgt := 29) eX8_isOf_6 (by decide) (fun w8 => ?_) (fun w8 => ?_)
            · replace hv := hv.1 w8
              refine a_iconst (v := 1) eX8_isOf_29 (by decide) ?_
              refine a_goto (tgt := 34) eX8_isOf_30 (by decide) ?_
              refine a_iret eX8_isOf_34 rfl rfl (ret_i ?_)
              refine a_if_eq (tgt := 67) eX8_ask_55 (by decide) (fun h => absurd h (by decide)) (fun _ => ?_)
              refine a_aload_n eX8_ask_58 rfl ?_
              refine gX8_9 eX8_ask_59 fl_X8_34 ?_
              refine a_iload_n eX8_ask_62 rfl ?_
              obtain ⟨h9, hv⟩ := hv
              refine a_iald eX8_ask_63 sA109 kA109 h9 ?_
              refine a_goto (tgt := 69) eX8_ask_64 (by decide) ?_
              exact a_iret eX8_ask_69 rfl rfl hv
            · replace hv := hv.2 w8
              refine a_iload_n eX8_isOf_9 rfl ?_
              refine a_iconst (v := 1) eX8_isOf_10 (by decide) ?_
              refine a_icmp_ne (tgt := 19) eX8_isOf_11 (by decide) (fun w10 => ?_) (fun w10 => ?_)
              · replace hv := hv.2 w10
                refine a_iload_n eX8_isOf_19 rfl ?_
                refine a_iconst (v := 2) eX8_isOf_20 (by decide) ?_
                refine a_icmp_ne (tgt := 33) eX8_isOf_21 (by decide) (fun w11 => ?_) (fun w11 => ?_)
                · replace hv := hv.2 w11
                  refine a_iconst (v := 0) eX8_isOf_33 (by decide) ?_
                  refine a_iret eX8_isOf_34 rfl rfl (ret_i ?_)
                  refine a_if_eq (tgt := 67) eX8_ask_55 (by decide) (fun _ => ?_) (fun h => absurd h (by decide))
                  refine a_ldc eX8_ask_67 kc_X8_140 ?_
                  exact a_iret eX8_ask_69 rfl rfl hv
                · replace hv := hv.1 w11
                  refine a_iload_n eX8_isOf_24 rfl ?_
                  refine a_iconst (v := 4) eX8_isOf_25 (by decide) ?_
                  refine a_icmp_ne (tgt := 33) eX8_isOf_26 (by decide) (fun w12 => ?_) (fun w12 => ?_)
                  · replace hv := hv.2 w12
                    refine a_iconst (v := 0) eX8_isOf_33 (by decide) ?_
                    refine a_iret eX8_isOf_34 rfl rfl (ret_i ?_)
                    refine a_if_eq (tgt := 67) eX8_ask_55 (by decide) (fun _ => ?_) (fun h => absurd h (by decide))
                    refine a_ldc eX8_ask_67 kc_X8_140 ?_
                    exact a_iret eX8_ask_69 rfl rfl hv
                  · replace hv := hv.1 w12
                    refine a_iconst (v := 1) eX8_isOf_29 (by decide) ?_
                    refine a_goto (tgt := 34) eX8_isOf_30 (by decide) ?_
                    refine a_iret eX8_isOf_34 rfl rfl (ret_i ?_)
                    refine a_if_eq (tgt := 67) eX8_ask_55 (by decide) (fun h => absurd h (by decide)) (fun _ => ?_)
                    refine a_aload_n eX8_ask_58 rfl ?_
                    refine gX8_9 eX8_ask_59 fl_X8_34 ?_
                    refine a_iload_n eX8_ask_62 rfl ?_
                    obtain ⟨h13, hv⟩ := hv
                    refine a_iald eX8_ask_63 sA109 kA109 h13 ?_
                    refine a_goto (tgt := 69) eX8_ask_64 (by decide) ?_
                    exact a_iret eX8_ask_69 rfl rfl hv
              · replace hv := hv.1 w10
                refine a_iload_n eX8_isOf_14 rfl ?_
                refine a_iconst (v := 3) eX8_isOf_15 (by decide) ?_
                refine a_icmp_eq (tgt := 29) eX8_isOf_16 (by decide) (fun w14 => ?_) (fun w14 => ?_)
                · replace hv := hv.1 w14
                  refine a_iconst (v := 1) eX8_isOf_29 (by decide) ?_
                  refine a_goto (tgt := 34) eX8_isOf_30 (by decide) ?_
                  refine a_iret eX8_isOf_34 rfl rfl (ret_i ?_)
                  refine a_if_eq (tgt := 67) eX8_ask_55 (by decide) (fun h => absurd h (by decide)) (fun _ => ?_)
                  refine a_aload_n eX8_ask_58 rfl ?_
                  refine gX8_9 eX8_ask_59 fl_X8_34 ?_
                  refine a_iload_n eX8_ask_62 rfl ?_
                  obtain ⟨h15, hv⟩ := hv
                  refine a_iald eX8_ask_63 sA109 kA109 h15 ?_
                  refine a_goto (tgt := 69) eX8_ask_64 (by decide) ?_
                  exact a_iret eX8_ask_69 rfl rfl hv
                · replace hv := hv.2 w14
                  refine a_iload_n eX8_isOf_19 rfl ?_
                  refine a_iconst (v := 2) eX8_isOf_20 (by decide) ?_
                  refine a_icmp_ne (tgt := 33) eX8_isOf_21 (by decide) (fun w16 => ?_) (fun w16 => ?_)
                  · replace hv := hv.2 w16
                    refine a_iconst (v := 0) eX8_isOf_33 (by decide) ?_
                    refine a_iret eX8_isOf_34 rfl rfl (ret_i ?_)
                    refine a_if_eq (tgt := 67) eX8_ask_55 (by decide) (fun _ => ?_) (fun h => absurd h (by decide))
                    refine a_ldc eX8_ask_67 kc_X8_140 ?_
                    exact a_iret eX8_ask_69 rfl rfl hv
                  · replace hv := hv.1 w16
                    refine a_iload_n eX8_isOf_24 rfl ?_
                    refine a_iconst (v := 4) eX8_isOf_25 (by decide) ?_
                    refine a_icmp_ne (tgt := 33) eX8_isOf_26 (by decide) (fun w17 => ?_) (fun w17 => ?_)
                    · replace hv := hv.2 w17
                      refine a_iconst (v := 0) eX8_isOf_33 (by decide) ?_
                      refine a_iret eX8_isOf_34 rfl rfl (ret_i ?_)
                      refine a_if_eq (tgt := 67) eX8_ask_55 (by decide) (fun _ => ?_) (fun h => absurd h (by decide))
                      refine a_ldc eX8_ask_67 kc_X8_140 ?_
                      exact a_iret eX8_ask_69 rfl rfl hv
                    · replace hv := hv.1 w17
                      refine a_iconst (v := 1) eX8_isOf_29 (by decide) ?_
                      refine a_goto (tgt := 34) eX8_isOf_30 (by decide) ?_
                      refine a_iret eX8_isOf_34 rfl rfl (ret_i ?_)
                      refine a_if_eq (tgt := 67) eX8_ask_55 (by decide) (fun h => absurd h (by decide)) (fun _ => ?_)
                      refine a_aload_n eX8_ask_58 rfl ?_
                      refine gX8_9 eX8_ask_59 fl_X8_34 ?_
                      refine a_iload_n eX8_ask_62 rfl ?_
                      obtain ⟨h18, hv⟩ := hv
                      refine a_iald eX8_ask_63 sA109 kA109 h18 ?_
                      refine a_goto (tgt := 69) eX8_ask_64 (by decide) ?_
                      exact a_iret eX8_ask_69 rfl rfl hv
      · replace hv := hv.1 w2
        refine a_ldcw eX8_ask_31 kc_X8_336 ?_
        exact a_iret eX8_ask_34 rfl rfl hv
    · replace hv := (hv.1 w19).2 w20
      refine a_if_ne (tgt := 22) eX8_ask_16 (by decide) (fun h => absurd h (by decide)) (fun _ => ?_)
      refine a_ldc eX8_ask_19 kc_X8_117 ?_
      exact a_iret eX8_ask_21 rfl rfl hv
    · replace hv := hv.2 w19
      refine a_if_ne (tgt := 22) eX8_ask_16 (by decide) (fun h => absurd h (by decide)) (fun _ => ?_)
      refine a_ldc eX8_ask_19 kc_X8_117 ?_
      exact a_iret eX8_ask_21 rfl rfl hv
  · replace hv := (hv.1 w21).2 w22
    refine a_iret eX8_isSlot_9 rfl rfl (ret_i ?_)
    refine a_if_eq (tgt := 19) eX8_ask_4 (by decide) (fun _ => ?_) (fun h => absurd h (by decide))
    refine a_ldc eX8_ask_19 kc_X8_117 ?_
    exact a_iret eX8_ask_21 rfl rfl hv
  · replace hv := hv.2 w21
    refine a_iret eX8_isSlot_9 rfl rfl (ret_i ?_)
    refine a_if_eq (tgt := 19) eX8_ask_4 (by decide) (fun _ => ?_) (fun h => absurd h (by decide))
    refine a_ldc eX8_ask_19 kc_X8_117 ?_
    exact a_iret eX8_ask_21 rfl rfl hv
theorem tX8_item {l : Launch} {G : GT} {d : Nat} {M : Mem} {R : Option Value → Mem → Prop} {v1 : Int32} {v2 : Int32} (hv : (0 ≤ v1 → (v1 ≤ 4 → vp_in v1 5 ∧ ((M 107 (ix v1)) = 2 → vp_in v1 5 ∧ (0 ≤ v2 → (v2 ≤ ((M 110 (ix v1)) - 1) → vp_in ((24 * v1) + v2) 120 ∧ ((M 111 (ix ((24 * v1) + v2))) = (-1000000005) → R (some (.int (-1000000012))) M) ∧ (¬ ((M 111 (ix ((24 * v1) + v2))) = (-1000000005)) → R (some (.int (M 111 (ix ((24 * v1) + v2))))) M)) ∧ (¬ (v2 ≤ ((M 110 (ix v1)) - 1)) → R (some (.int (-1000000013))) M)) ∧ (¬ (0 ≤ v2) → R (some (.int (-1000000013))) M)) ∧ (¬ ((M 107 (ix v1)) = 2) → vp_in v1 5 ∧ ((M 107 (ix v1)) = 0 → R (some (.int (-1000000011))) M) ∧ (¬ ((M 107 (ix v1)) = 0) → R (some (.int (-1000000012))) M))) ∧ (¬ (v1 ≤ 4) → R (some (.int (-1000000001))) M)) ∧ (¬ (0 ≤ v1) → R (some (.int (-1000000001))) M)) : Tr l G (d + 4) mX8_item [.ref (G.1 100), .int v1, .int v2] M R := by
  refine Tr.of rfl (Nat.le_of_ble_eq_true rfl) (vs := [some (.ref (G.1 100)), some (.int v1), some (.int v2), none]) rfl ?_
  refine a_iload_n eX8_item_0 rfl ?_
  refine qX8_347 rfl eX8_item_1 (Nat.le_of_ble_eq_true rfl) ?_
  refine Tr.of rfl (Nat.le_of_ble_eq_true rfl) (vs := [some (.int v1)]) rfl ?_
  refine a_iload_n eX8_isSlot_0 rfl ?_
  refine a_i2l eX8_isSlot_1 ?_
  refine a_lconsti 0 eX8_isSlot_2 (by decide) ?_
  refine a_ldc2i 4 eX8_isSlot_3 kl_X8_345 (by decide) ?_
  refine qX8_68 rfl eX8_isSlot_6 (Nat.le_of_ble_eq_true rfl) ?_
  refine in_isIn (v := v1) (lo := 0) (hi := 4) ⟨fun w10 => ⟨fun w11 => ret_i ?_, fun w11 => ret_i ?_⟩, fun w10 => ret_i ?_⟩
  · replace hv := (hv.1 w10).1 w11
    refine a_iret eX8_isSlot_9 rfl rfl (ret_i ?_)
    refine a_if_ne (tgt := 10) eX8_item_4 (by decide) (fun _ => ?_) (fun h => absurd h (by decide))
    refine a_aload_n eX8_item_10 rfl ?_
    refine gX8_7 eX8_item_11 fl_X8_28 ?_
    refine a_iload_n eX8_item_14 rfl ?_
    obtain ⟨h1, hv⟩ := hv
    refine a_iald eX8_item_15 sA107 kA107 h1 ?_
    refine a_iconst (v := 2) eX8_item_16 (by decide) ?_
    refine a_icmp_eq (tgt := 38) eX8_item_17 (by decide) (fun w2 => ?_) (fun w2 => ?_)
    · replace hv := hv.1 w2
      refine a_iload_n eX8_item_38 rfl ?_
      refine a_i2l eX8_item_39 ?_
      refine a_lconsti 0 eX8_item_40 (by decide) ?_
      refine a_aload_n eX8_item_41 rfl ?_
      refine gX8_10 eX8_item_42 fl_X8_37 ?_
      refine a_iload_n eX8_item_45 rfl ?_
      obtain ⟨h3, hv⟩ := hv
      refine a_iald eX8_item_46 sA110 kA110 h3 ?_
      refine a_iconst (v := 1) eX8_item_47 (by decide) ?_
      refine a_isub eX8_item_48 ?_
      refine a_i2l eX8_item_49 ?_
      refine qX8_68 rfl eX8_item_50 (Nat.le_of_ble_eq_true rfl) ?_
      refine in_isIn (v := v2) (lo := 0) (hi := (M 110 (ix v1)) - 1) ⟨fun w6 => ⟨fun w7 => ret_i ?_, fun w7 => ret_i ?_⟩, fun w6 => ret_i ?_⟩
      · replace hv := (hv.1 w6).1 w7
        refine a_if_ne (tgt := 60) eX8_item_53 (by decide) (fun _ => ?_) (fun h => absurd h (by decide))
        refine a_aload_n eX8_item_60 rfl ?_
        refine gX8_11 eX8_item_61 fl_X8_40 ?_
        refine a_bipush (v := 24) eX8_item_64 (by decide) ?_
        refine a_iload_n eX8_item_66 rfl ?_
        refine a_imul eX8_item_67 ?_
        refine a_iload_n eX8_item_68 rfl ?_
        refine a_iadd eX8_item_69 ?_
        obtain ⟨h4, hv⟩ := hv
        refine a_iald eX8_item_70 sA111 kA111 h4 ?_
        refine a_istore_n (vs' := [some (.ref (G.1 100)), some (.int v1), some (.int v2), some (.int (M 111 (ix ((24 * v1) + v2))))]) eX8_item_71 rfl (Nat.le_of_ble_eq_true rfl) rfl ?_
        refine a_iload_n eX8_item_72 rfl ?_
        refine a_ldc eX8_item_73 kc_X8_67 ?_
        refine a_icmp_ne (tgt := 83) eX8_item_75 (by decide) (fun w5 => ?_) (fun w5 => ?_)
        · replace hv := hv.2 w5
          refine a_iload_n eX8_item_83 rfl ?_
          exact a_iret eX8_item_84 rfl rfl hv
        · replace hv := hv.1 w5
          refine a_ldc eX8_item_78 kc_X8_140 ?_
          refine a_goto (tgt := 84) eX8_item_80 (by decide) ?_
          exact a_iret eX8_item_84 rfl rfl hv
      · replace hv := (hv.1 w6).2 w7
        refine a_if_ne (tgt := 60) eX8_item_53 (by decide) (fun h => absurd h (by decide)) (fun _ => ?_)
        refine a_ldcw eX8_item_56 kc_X8_337 ?_
        exact a_iret eX8_item_59 rfl rfl hv
      · replace hv := hv.2 w6
        refine a_if_ne (tgt := 60) eX8_item_53 (by decide) (fun h => absurd h (by decide)) (fun _ => ?_)
        refine a_ldcw eX8_item_56 kc_X8_337 ?_
        exact a_iret eX8_item_59 rfl rfl hv
    · replace hv := hv.2 w2
      refine a_aload_n eX8_item_20 rfl ?_
      refine gX8_7 eX8_item_21 fl_X8_28 ?_
      refine a_iload_n eX8_item_24 rfl ?_
      obtain ⟨h8, hv⟩ := hv
      refine a_iald eX8_item_25 sA107 kA107 h8 ?_
      refine a_if_ne (tgt := 35) eX8_item_26 (by decide) (fun w9 => ?_) (fun w9 => ?_)
      · replace hv := hv.2 w9
        refine a_ldc eX8_item_35 kc_X8_140 ?_
        exact a_iret eX8_item_37 rfl rfl hv
      · replace hv := hv.1 w9
        refine a_ldcw eX8_item_29 kc_X8_336 ?_
        refine a_goto (tgt := 37) eX8_item_32 (by decide) ?_
        exact a_iret eX8_item_37 rfl rfl hv
  · replace hv := (hv.1 w10).2 w11
    refine a_iret eX8_isSlot_9 rfl rfl (ret_i ?_)
    refine a_if_ne (tgt := 10) eX8_item_4 (by decide) (fun h => absurd h (by decide)) (fun _ => ?_)
    refine a_ldc eX8_item_7 kc_X8_117 ?_
    exact a_iret eX8_item_9 rfl rfl hv
  · replace hv := hv.2 w10
    refine a_iret eX8_isSlot_9 rfl rfl (ret_i ?_)
    refine a_if_ne (tgt := 10) eX8_item_4 (by decide) (fun h => absurd h (by decide)) (fun _ => ?_)
    refine a_ldc eX8_item_7 kc_X8_117 ?_
    exact a_iret eX8_item_9 rfl rfl hv
theorem tX8_rest {l : Launch} {G : GT} {d : Nat} {M : Mem} {R : Option Value → Mem → Prop} {v1 : Int32} {v2 : Int32} (hv : (0 ≤ v1 → (v1 ≤ 4 → vp_in v1 5 ∧ ((M 107 (ix v1)) = 3 → (v2 = 0 → R (some (.int (-1000000002))) M) ∧ (¬ (v2 = 0) → vp_in v1 5 ∧ ¬ v2 = 0 ∧ R (some (.int ((M 108 (ix v1)) - (M 108 (ix v1)) / v2 * v2))) M)) ∧ (¬ ((M 107 (ix v1)) = 3) → vp_in v1 5 ∧ ((M 107 (ix v1)) = 0 → R (some (.int (-1000000011))) M) ∧ (¬ ((M 107 (ix v1)) = 0) → R (some (.int (-1000000012))) M))) ∧ (¬ (v1 ≤ 4) → R (some (.int (-1000000001))) M)) ∧ (¬ (0 ≤ v1) → R (some (.int (-1000000001))) M)) : Tr l G (d + 4) mX8_rest [.ref (G.1 100), .int v1, .int v2] M R := by
  refine Tr.of rfl (Nat.le_of_ble_eq_true rfl) (vs := [some (.ref (G.1 100)), some (.int v1), some (.int v2)]) rfl ?_
  refine a_iload_n eX8_rest_0 rfl ?_
  refine qX8_347 rfl eX8_rest_1 (Nat.le_of_ble_eq_true rfl) ?_
  refine Tr.of rfl (Nat.le_of_ble_eq_true rfl) (vs := [some (.int v1)]) rfl ?_
  refine a_iload_n eX8_isSlot_0 rfl ?_
  refine a_i2l eX8_isSlot_1 ?_
  refine a_lconsti 0 eX8_isSlot_2 (by decide) ?_
  refine a_ldc2i 4 eX8_isSlot_3 kl_X8_345 (by decide) ?_
  refine qX8_68 rfl eX8_isSlot_6 (Nat.le_of_ble_eq_true rfl) ?_
  refine in_isIn (v := v1) (lo := 0) (hi := 4) ⟨fun w8 => ⟨fun w9 => ret_i ?_, fun w9 => ret_i ?_⟩, fun w8 => ret_i ?_⟩
  · replace hv := (hv.1 w8).1 w9
    refine a_iret eX8_isSlot_9 rfl rfl (ret_i ?_)
    refine a_if_ne (tgt := 10) eX8_rest_4 (by decide) (fun _ => ?_) (fun h => absurd h (by decide))
    refine a_aload_n eX8_rest_10 rfl ?_
    refine gX8_7 eX8_rest_11 fl_X8_28 ?_
    refine a_iload_n eX8_rest_14 rfl ?_
    obtain ⟨h1, hv⟩ := hv
    refine a_iald eX8_rest_15 sA107 kA107 h1 ?_
    refine a_iconst (v := 3) eX8_rest_16 (by decide) ?_
    refine a_icmp_eq (tgt := 38) eX8_rest_17 (by decide) (fun w2 => ?_) (fun w2 => ?_)
    · replace hv := hv.1 w2
      refine a_iload_n eX8_rest_38 rfl ?_
      refine a_if_ne (tgt := 47) eX8_rest_39 (by decide) (fun w3 => ?_) (fun w3 => ?_)
      · replace hv := hv.2 w3
        refine a_aload_n eX8_rest_47 rfl ?_
        refine gX8_8 eX8_rest_48 fl_X8_31 ?_
        refine a_iload_n eX8_rest_51 rfl ?_
        obtain ⟨h4, hv⟩ := hv
        refine a_iald eX8_rest_52 sA108 kA108 h4 ?_
        refine a_iload_n eX8_rest_53 rfl ?_
        obtain ⟨h5, hv⟩ := hv
        refine a_irem eX8_rest_54 h5 ?_
        exact a_iret eX8_rest_55 rfl rfl hv
      · replace hv := hv.1 w3
        refine a_ldc eX8_rest_42 kc_X8_152 ?_
        refine a_goto (tgt := 55) eX8_rest_44 (by decide) ?_
        exact a_iret eX8_rest_55 rfl rfl hv
    · replace hv := hv.2 w2
      refine a_aload_n eX8_rest_20 rfl ?_
      refine gX8_7 eX8_rest_21 fl_X8_28 ?_
      refine a_iload_n eX8_rest_24 rfl ?_
      obtain ⟨h6, hv⟩ := hv
      refine a_iald eX8_rest_25 sA107 kA107 h6 ?_
      refine a_if_ne (tgt := 35) eX8_rest_26 (by decide) (fun w7 => ?_) (fun w7 => ?_)
      · replace hv := hv.2 w7
        refine a_ldc eX8_rest_35 kc_X8_140 ?_
        exact a_iret eX8_rest_37 rfl rfl hv
      · replace hv := hv.1 w7
        refine a_ldcw eX8_rest_29 kc_X8_336 ?_
        refine a_goto (tgt := 37) eX8_rest_32 (by decide) ?_
        exact a_iret eX8_rest_37 rfl rfl hv
  · replace hv := (hv.1 w8).2 w9
    refine a_iret eX8_isSlot_9 rfl rfl (ret_i ?_)
    refine a_if_ne (tgt := 10) eX8_rest_4 (by decide) (fun h => absurd h (by decide)) (fun _ => ?_)
    refine a_ldc eX8_rest_7 kc_X8_117 ?_
    exact a_iret eX8_rest_9 rfl rfl hv
  · replace hv := hv.2 w8
    refine a_iret eX8_isSlot_9 rfl rfl (ret_i ?_)
    refine a_if_ne (tgt := 10) eX8_rest_4 (by decide) (fun h => absurd h (by decide)) (fun _ => ?_)
    refine a_ldc eX8_rest_7 kc_X8_117 ?_
    exact a_iret eX8_rest_9 rfl rfl hv
theorem tX8_tell {l : Launch} {G : GT} {d : Nat} {M : Mem} {R : Option Value → Mem → Prop} {v1 : Int32} (hv : ((M 100 30) = 60 → R (some (.int (-1000000003))) M) ∧ (¬ ((M 100 30) = 60) → vp_in (M 100 30) 60 ∧ ∀ M3 : Mem, M3 = um (um M 118 (ix (M 100 30)) v1) 100 30 (((um M 118 (ix (M 100 30)) v1) 100 30) + 1) → R (some (.int (M3 100 30))) M3)) : Tr l G (d + 4) mX8_tell [.ref (G.1 100), .int v1] M R := by
  refine Tr.of rfl (Nat.le_of_ble_eq_true rfl) (vs := [some (.ref (G.1 100)), some (.int v1)]) rfl ?_
  refine a_aload_n eX8_tell_0 rfl ?_
  refine gX8_30 eX8_tell_1 fl_X8_350 ?_
  refine a_bipush (v := 60) eX8_tell_4 (by decide) ?_
  refine a_icmp_ne (tgt := 12) eX8_tell_6 (by decide) (fun w1 => ?_) (fun w1 => ?_)
  · replace hv := hv.2 w1
    refine a_aload_n eX8_tell_12 rfl ?_
    refine gX8_29 eX8_tell_13 fl_X8_61 ?_
    refine a_aload_n eX8_tell_16 rfl ?_
    refine gX8_30 eX8_tell_17 fl_X8_350 ?_
    refine a_iload_n eX8_tell_20 rfl ?_
    obtain ⟨h2, hv⟩ := hv
    refine a_iast eX8_tell_21 sA118 kA118 h2 ?_
    refine a_aload_n eX8_tell_22 rfl ?_
    refine a_dup eX8_tell_23 rfl ?_
    refine gX8_30 eX8_tell_24 fl_X8_350 ?_
    refine a_iconst (v := 1) eX8_tell_27 (by decide) ?_
    refine a_iadd eX8_tell_28 ?_
    refine pX8_30 eX8_tell_29 fl_X8_350 ?_
    refine a_nm (fun M3 eM3 => ?_)
    replace hv := hv M3 eM3
    refine a_aload_n eX8_tell_32 rfl ?_
    refine gX8_30 eX8_tell_33 fl_X8_350 ?_
    exact a_iret eX8_tell_36 rfl rfl hv
  · replace hv := hv.1 w1
    refine a_ldc eX8_tell_9 kc_X8_118 ?_
    exact a_iret eX8_tell_11 rfl rfl hv
theorem tX8_setAside {l : Launch} {G : GT} {d : Nat} {M : Mem} {R : Option Value → Mem → Prop} {a1 : Nat} (hs1 : shp a1 = (1, 3084, [])) (hk1 : inK a1 = true) {a2 : Nat} (hs2 : shp a2 = (1, 3084, [])) (hk2 : inK a2 = true) (hv : At l G (d + 4) mX8_setAside 2 [none, some (.ref (G.1 a1)), some (.ref (G.1 a2)), some (.int 0)] [] M R) : Tr l G (d + 4) mX8_setAside [.ref (G.1 100), .ref (G.1 a1), .ref (G.1 a2)] M R := by
  refine Tr.of rfl (Nat.le_of_ble_eq_true rfl) (vs := [some (.ref (G.1 100)), some (.ref (G.1 a1)), some (.ref (G.1 a2)), none]) rfl ?_
  refine a_iconst (v := 0) eX8_setAside_0 (by decide) ?_
  refine a_istore_n (vs' := [some (.ref (G.1 100)), some (.ref (G.1 a1)), some (.ref (G.1 a2)), some (.int 0)]) eX8_setAside_1 rfl (Nat.le_of_ble_eq_true rfl) rfl ?_
  exact a_weak [false, true, true, true] rfl rfl hv
theorem bX8_setAside_2 {l : Launch} {G : GT} {d : Nat} {M : Mem} {R : Option Value → Mem → Prop} {a1 : Nat} (hs1 : shp a1 = (1, 3084, [])) (hk1 : inK a1 = true) {a2 : Nat} (hs2 : shp a2 = (1, 3084, [])) (hk2 : inK a2 = true) {v3 : Int32} (hv : (2884 ≤ v3 → R none M) ∧ (¬ (2884 ≤ v3) → vp_in v3 3084 ∧ vp_in v3 3084 ∧ At l G (d + 4) mX8_setAside 2 [none, some (.ref (G.1 a1)), some (.ref (G.1 a2)), some (.int (v3 + 1))] [] (um M a2 (ix v3) (M a1 (ix v3))) R)) : At l G (d + 4) mX8_setAside 2 [none, some (.ref (G.1 a1)), some (.ref (G.1 a2)), some (.int v3)] [] M R := by
  refine a_iload_n eX8_setAside_2 rfl ?_
  refine a_sipush (v := 2884) eX8_setAside_3 (by decide) ?_
  refine a_icmp_ge (tgt := 21) eX8_setAside_6 (by decide) (fun w1 => ?_) (fun w1 => ?_)
  · replace hv := hv.1 w1
    exact a_vret eX8_setAside_21 rfl hv
  · replace hv := hv.2 w1
    refine a_aload_n eX8_setAside_9 rfl ?_
    refine a_iload_n eX8_setAside_10 rfl ?_
    refine a_aload_n eX8_setAside_11 rfl ?_
    refine a_iload_n eX8_setAside_12 rfl ?_
    obtain ⟨h2, hv⟩ := hv
    refine a_iald eX8_setAside_13 hs1 hk1 h2 ?_
    obtain ⟨h3, hv⟩ := hv
    refine a_iast eX8_setAside_14 hs2 hk2 h3 ?_
    refine a_iinc (v := 1) (vs' := [none, some (.ref (G.1 a1)), some (.ref (G.1 a2)), some (.int (v3 + 1))]) eX8_setAside_15 rfl rfl (by decide) rfl ?_
    refine a_goto (tgt := 2) eX8_setAside_18 (by decide) ?_
    exact a_weak [false, true, true, true] rfl rfl hv
theorem tX8_check {l : Launch} {G : GT} {d : Nat} {M : Mem} {R : Option Value → Mem → Prop} {v1 : Int32} (hv : (1 ≤ v1 → (v1 ≤ 30 → (((um M 100 30 0) 100 3) = 0 → R (some (.int (-1000000002))) (um M 100 30 0)) ∧ (¬ (((um M 100 30 0) 100 3) = 0) → Tr l G (d + 3) mX8_setAside [.ref (G.1 100), .ref (G.1 101), .ref (G.1 103)] (um M 100 30 0) (kV fun M' => At l G (d + 4) mX8_check 47 [some (.ref (G.1 100)), some (.int v1), some (.int (M 100 30)), none, none] [] M' R))) ∧ (¬ (v1 ≤ 30) → R (some (.int (-1000000001))) (um M 100 30 0))) ∧ (¬ (1 ≤ v1) → R (some (.int (-1000000001))) (um M 100 30 0))) : Tr l G (d + 4) mX8_check [.ref (G.1 100), .int v1] M R := by
  refine Tr.of rfl (Nat.le_of_ble_eq_true rfl) (vs := [some (.ref (G.1 100)), some (.int v1), none, none, none]) rfl ?_
  refine a_aload_n eX8_check_0 rfl ?_
  refine gX8_30 eX8_check_1 fl_X8_350 ?_
  refine a_istore_n (vs' := [some (.ref (G.1 100)), some (.int v1), some (.int (M 100 30)), none, none]) eX8_check_4 rfl (Nat.le_of_ble_eq_true rfl) rfl ?_
  refine a_aload_n eX8_check_5 rfl ?_
  refine a_iconst (v := 0) eX8_check_6 (by decide) ?_
  refine pX8_30 eX8_check_7 fl_X8_350 ?_
  refine a_iload_n eX8_check_10 rfl ?_
  refine a_i2l eX8_check_11 ?_
  refine a_lconsti 1 eX8_check_12 (by decide) ?_
  refine a_ldc2i 30 eX8_check_13 kl_X8_353 (by decide) ?_
  refine qX8_68 rfl eX8_check_16 (Nat.le_of_ble_eq_true rfl) ?_
  refine in_isIn (v := v1) (lo := 1) (hi := 30) ⟨fun w2 => ⟨fun w3 => ret_i ?_, fun w3 => ret_i ?_⟩, fun w2 => ret_i ?_⟩
  · replace hv := (hv.1 w2).1 w3
    refine a_if_ne (tgt := 25) eX8_check_19 (by decide) (fun _ => ?_) (fun h => absurd h (by decide))
    refine a_aload_n eX8_check_25 rfl ?_
    refine gX8_3 eX8_check_26 fl_X8_355 ?_
    refine a_if_ne (tgt := 35) eX8_check_29 (by decide) (fun w1 => ?_) (fun w1 => ?_)
    · replace hv := hv.2 w1
      refine a_aload_n eX8_check_35 rfl ?_
      refine a_aload_n eX8_check_36 rfl ?_
      refine gX8_0 eX8_check_37 fl_X8_7 ?_
      refine a_aload_n eX8_check_40 rfl ?_
      refine gX8_2 eX8_check_41 fl_X8_16 ?_
      exact qX8_359 rfl eX8_check_44 (Nat.le_of_ble_eq_true rfl) (tr_V [true, true, true, false, false] rfl rfl hv)
    · replace hv := hv.1 w1
      refine a_ldc eX8_check_32 kc_X8_152 ?_
      exact a_iret eX8_check_34 rfl rfl hv
  · replace hv := (hv.1 w2).2 w3
    refine a_if_ne (tgt := 25) eX8_check_19 (by decide) (fun h => absurd h (by decide)) (fun _ => ?_)
    refine a_ldc eX8_check_22 kc_X8_117 ?_
    exact a_iret eX8_check_24 rfl rfl hv
  · replace hv := hv.2 w2
    refine a_if_ne (tgt := 25) eX8_check_19 (by decide) (fun h => absurd h (by decide)) (fun _ => ?_)
    refine a_ldc eX8_check_22 kc_X8_117 ?_
    exact a_iret eX8_check_24 rfl rfl hv
theorem bX8_check_47 {l : Launch} {G : GT} {d : Nat} {M : Mem} {R : Option Value → Mem → Prop} {v1 : Int32} {v2 : Int32} (hv : Tr l G (d + 3) mX8_setAside [.ref (G.1 100), .ref (G.1 102), .ref (G.1 101)] M (kV fun M' => At l G (d + 4) mX8_check 59 [some (.ref (G.1 100)), some (.int v1), some (.int v2), none, none] [] M' R)) : At l G (d + 4) mX8_check 47 [some (.ref (G.1 100)), some (.int v1), some (.int v2), none, none] [] M R := by
  refine a_aload_n eX8_check_47 rfl ?_
  refine a_aload_n eX8_check_48 rfl ?_
  refine gX8_1 eX8_check_49 fl_X8_13 ?_
  refine a_aload_n eX8_check_52 rfl ?_
  refine gX8_0 eX8_check_53 fl_X8_7 ?_
  exact qX8_359 rfl eX8_check_56 (Nat.le_of_ble_eq_true rfl) (tr_V [true, true, true, false, false] rfl rfl hv)
theorem bX8_check_59 {l : Launch} {G : GT} {d : Nat} {M : Mem} {R : Option Value → Mem → Prop} {v1 : Int32} {v2 : Int32} (hv : At l G (d + 4) mX8_check 64 [some (.ref (G.1 100)), some (.int v1), some (.int v2), some (.int 0), some (.int 0)] [] M R) : At l G (d + 4) mX8_check 59 [some (.ref (G.1 100)), some (.int v1), some (.int v2), none, none] [] M R := by
  refine a_iconst (v := 0) eX8_check_59 (by decide) ?_
  refine a_istore_n (vs' := [some (.ref (G.1 100)), some (.int v1), some (.int v2), some (.int 0), none]) eX8_check_60 rfl (Nat.le_of_ble_eq_true rfl) rfl ?_
  refine a_iconst (v := 0) eX8_check_61 (by decide) ?_
  refine a_istore (vs' := [some (.ref (G.1 100)), some (.int v1), some (.int v2), some (.int 0), some (.int 0)]) eX8_check_62 rfl (Nat.le_of_ble_eq_true rfl) rfl ?_
  exact a_weak [true, true, true, true, true] rfl rfl hv
theorem bX8_check_64 {l : Launch} {G : GT} {d : Nat} {M : Mem} {R : Option Value → Mem → Prop} {v1 : Int32} {v2 : Int32} {v3 : Int32} {v4 : Int32} (hv : (v1 ≤ v4 → Tr l G (d + 3) mX8_setAside [.ref (G.1 100), .ref (G.1 103), .ref (G.1 101)] M (kV fun M' => At l G (d + 4) mX8_check 132 [some (.ref (G.1 100)), none, some (.int v2), some (.int v3), none] [] M' R)) ∧ (¬ (v1 ≤ v4) → (9999 ≤ (M 101 2) → Tr l G (d + 3) mX8_setAside [.ref (G.1 100), .ref (G.1 103), .ref (G.1 101)] M (kV fun M' => At l G (d + 4) mX8_check 132 [some (.ref (G.1 100)), none, some (.int v2), some (.int v3), none] [] M' R)) ∧ (¬ (9999 ≤ (M 101 2)) → Tr l G (d + 3) mX8_goesOn [.ref (G.1 100)] M (kV fun M' => At l G (d + 4) mX8_check 86 [some (.ref (G.1 100)), some (.int v1), some (.int v2), some (.int v3), some (.int v4)] [] M' R)))) : At l G (d + 4) mX8_check 64 [some (.ref (G.1 100)), some (.int v1), some (.int v2), some (.int v3), some (.int v4)] [] M R := by
  refine a_iload eX8_check_64 rfl ?_
  refine a_iload_n eX8_check_66 rfl ?_
  refine a_icmp_ge (tgt := 120) eX8_check_67 (by decide) (fun w1 => ?_) (fun w1 => ?_)
  · replace hv := hv.1 w1
    refine a_aload_n eX8_check_120 rfl ?_
    refine a_aload_n eX8_check_121 rfl ?_
    refine gX8_2 eX8_check_122 fl_X8_16 ?_
    refine a_aload_n eX8_check_125 rfl ?_
    refine gX8_0 eX8_check_126 fl_X8_7 ?_
    exact qX8_359 rfl eX8_check_129 (Nat.le_of_ble_eq_true rfl) (tr_V [true, false, true, true, false] rfl rfl hv)
  · replace hv := hv.2 w1
    refine a_aload_n eX8_check_70 rfl ?_
    refine gX8_0 eX8_check_71 fl_X8_7 ?_
    refine a_iconst (v := 2) eX8_check_74 (by decide) ?_
    refine a_ialdc 2 eX8_check_75 sA101 kA101 (by decide) (by decide) ?_
    refine a_sipush (v := 9999) eX8_check_76 (by decide) ?_
    refine a_icmp_ge (tgt := 120) eX8_check_79 (by decide) (fun w2 => ?_) (fun w2 => ?_)
    · replace hv := hv.1 w2
      refine a_aload_n eX8_check_120 rfl ?_
      refine a_aload_n eX8_check_121 rfl ?_
      refine gX8_2 eX8_check_122 fl_X8_16 ?_
      refine a_aload_n eX8_check_125 rfl ?_
      refine gX8_0 eX8_check_126 fl_X8_7 ?_
      exact qX8_359 rfl eX8_check_129 (Nat.le_of_ble_eq_true rfl) (tr_V [true, false, true, true, false] rfl rfl hv)
    · replace hv := hv.2 w2
      refine a_aload_n eX8_check_82 rfl ?_
      exact qX8_194 rfl eX8_check_83 (Nat.le_of_ble_eq_true rfl) (tr_V [true, true, true, true, true] rfl rfl hv)
theorem bX8_check_86 {l : Launch} {G : GT} {d : Nat} {M : Mem} {R : Option Value → Mem → Prop} {v1 : Int32} {v2 : Int32} {v3 : Int32} {v4 : Int32} (hv : vp_in v3 60 ∧ Tr l G (d + 3) mX8_known [.ref (G.1 100)] (um M 119 (ix v3) (M 101 6)) (kI fun q M' => At l G (d + 4) mX8_check 110 [some (.ref (G.1 100)), some (.int v1), some (.int v2), some (.int v3), some (.int v4)] [.int q, .int (v3 + 1), .ref (G.1 119)] M' R)) : At l G (d + 4) mX8_check 86 [some (.ref (G.1 100)), some (.int v1), some (.int v2), some (.int v3), some (.int v4)] [] M R := by
  refine a_aload_n eX8_check_86 rfl ?_
  refine gX8_31 eX8_check_87 fl_X8_64 ?_
  refine a_iload_n eX8_check_90 rfl ?_
  refine a_aload_n eX8_check_91 rfl ?_
  refine gX8_0 eX8_check_92 fl_X8_7 ?_
  refine a_bipush (v := 6) eX8_check_95 (by decide) ?_
  refine a_ialdc 6 eX8_check_97 sA101 kA101 (by decide) (by decide) ?_
  obtain ⟨h1, hv⟩ := hv
  refine a_iast eX8_check_98 sA119 kA119 h1 ?_
  refine a_aload_n eX8_check_99 rfl ?_
  refine gX8_31 eX8_check_100 fl_X8_64 ?_
  refine a_iload_n eX8_check_103 rfl ?_
  refine a_iconst (v := 1) eX8_check_104 (by decide) ?_
  refine a_iadd eX8_check_105 ?_
  refine a_aload_n eX8_check_106 rfl ?_
  exact qX8_206 rfl eX8_check_107 (Nat.le_of_ble_eq_true rfl) (tr_I [true, true, true, true, true] rfl rfl hv)
theorem bX8_check_110 {l : Launch} {G : GT} {d : Nat} {M : Mem} {R : Option Value → Mem → Prop} {v1 : Int32} {v2 : Int32} {v3 : Int32} {v4 : Int32} {r : Int32} {t1 : Int32} (hv : vp_in t1 60 ∧ At l G (d + 4) mX8_check 64 [some (.ref (G.1 100)), some (.int v1), some (.int v2), some (.int (v3 + 2)), some (.int (v4 + 1))] [] (um M 119 (ix t1) r) R) : At l G (d + 4) mX8_check 110 [some (.ref (G.1 100)), some (.int v1), some (.int v2), some (.int v3), some (.int v4)] [.int r, .int t1, .ref (G.1 119)] M R := by
  obtain ⟨h1, hv⟩ := hv
  refine a_iast eX8_check_110 sA119 kA119 h1 ?_
  refine a_iinc (v := 2) (vs' := [some (.ref (G.1 100)), some (.int v1), some (.int v2), some (.int (v3 + 2)), some (.int v4)]) eX8_check_111 rfl rfl (by decide) rfl ?_
  refine a_iinc (v := 1) (vs' := [some (.ref (G.1 100)), some (.int v1), some (.int v2), some (.int (v3 + 2)), some (.int (v4 + 1))]) eX8_check_114 rfl rfl (by decide) rfl ?_
  refine a_goto (tgt := 64) eX8_check_117 (by decide) ?_
  exact a_weak [true, true, true, true, true] rfl rfl hv
theorem bX8_check_132 {l : Launch} {G : GT} {d : Nat} {M : Mem} {R : Option Value → Mem → Prop} {v2 : Int32} {v3 : Int32} (hv : At l G (d + 4) mX8_check 135 [some (.ref (G.1 100)), none, some (.int v2), some (.int v3), some (.int 0)] [] M R) : At l G (d + 4) mX8_check 132 [some (.ref (G.1 100)), none, some (.int v2), some (.int v3), none] [] M R := by
  refine a_iconst (v := 0) eX8_check_132 (by decide) ?_
  refine a_istore (vs' := [some (.ref (G.1 100)), none, some (.int v2), some (.int v3), some (.int 0)]) eX8_check_133 rfl (Nat.le_of_ble_eq_true rfl) rfl ?_
  exact a_weak [true, false, true, true, true] rfl rfl hv
theorem bX8_check_135 {l : Launch} {G : GT} {d : Nat} {M : Mem} {R : Option Value → Mem → Prop} {v2 : Int32} {v3 : Int32} {v4 : Int32} (hv : (v2 ≤ v4 → (v4 = v2 → (v4 = v3 → R (some (.int 0)) M) ∧ (¬ (v4 = v3) → R (some (.int (1 + v4))) M)) ∧ (¬ (v4 = v2) → R (some (.int (1 + v4))) M)) ∧ (¬ (v2 ≤ v4) → (v3 ≤ v4 → (v4 = v2 → (v4 = v3 → R (some (.int 0)) M) ∧ (¬ (v4 = v3) → R (some (.int (1 + v4))) M)) ∧ (¬ (v4 = v2) → R (some (.int (1 + v4))) M)) ∧ (¬ (v3 ≤ v4) → vp_in v4 60 ∧ vp_in v4 60 ∧ ((M 118 (ix v4)) = (M 119 (ix v4)) → At l G (d + 4) mX8_check 135 [some (.ref (G.1 100)), none, some (.int v2), some (.int v3), some (.int (v4 + 1))] [] M R) ∧ (¬ ((M 118 (ix v4)) = (M 119 (ix v4))) → (v4 = v2 → (v4 = v3 → R (some (.int 0)) M) ∧ (¬ (v4 = v3) → R (some (.int (1 + v4))) M)) ∧ (¬ (v4 = v2) → R (some (.int (1 + v4))) M))))) : At l G (d + 4) mX8_check 135 [some (.ref (G.1 100)), none, some (.int v2), some (.int v3), some (.int v4)] [] M R := by
  refine a_iload eX8_check_135 rfl ?_
  refine a_iload_n eX8_check_137 rfl ?_
  refine a_icmp_ge (tgt := 170) eX8_check_138 (by decide) (fun w1 => ?_) (fun w1 => ?_)
  · replace hv := hv.1 w1
    refine a_iload eX8_check_170 rfl ?_
    refine a_iload_n eX8_check_172 rfl ?_
    refine a_icmp_ne (tgt := 186) eX8_check_173 (by decide) (fun w2 => ?_) (fun w2 => ?_)
    · replace hv := hv.2 w2
      refine a_iconst (v := 1) eX8_check_186 (by decide) ?_
      refine a_iload eX8_check_187 rfl ?_
      refine a_iadd eX8_check_189 ?_
      exact a_iret eX8_check_190 rfl rfl hv
    · replace hv := hv.1 w2
      refine a_iload eX8_check_176 rfl ?_
      refine a_iload_n eX8_check_178 rfl ?_
      refine a_icmp_ne (tgt := 186) eX8_check_179 (by decide) (fun w3 => ?_) (fun w3 => ?_)
      · replace hv := hv.2 w3
        refine a_iconst (v := 1) eX8_check_186 (by decide) ?_
        refine a_iload eX8_check_187 rfl ?_
        refine a_iadd eX8_check_189 ?_
        exact a_iret eX8_check_190 rfl rfl hv
      · replace hv := hv.1 w3
        refine a_iconst (v := 0) eX8_check_182 (by decide) ?_
        refine a_goto (tgt := 190) eX8_check_183 (by decide) ?_
        exact a_iret eX8_check_190 rfl rfl hv
  · replace hv := hv.2 w1
    refine a_iload eX8_check_141 rfl ?_
    refine a_iload_n eX8_check_143 rfl ?_
    refine a_icmp_ge (tgt := 170) eX8_check_144 (by decide) (fun w4 => ?_) (fun w4 => ?_)
    · replace hv := hv.1 w4
      refine a_iload eX8_check_170 rfl ?_
      refine a_iload_n eX8_check_172 rfl ?_
      refine a_icmp_ne (tgt := 186) eX8_check_173 (by decide) (fun w5 => ?_) (fun w5 => ?_)
      · replace hv := hv.2 w5
        refine a_iconst (v := 1) eX8_check_186 (by decide) ?_
        refine a_iload eX8_check_187 rfl ?_
        refine a_iadd eX8_check_189 ?_
        exact a_iret eX8_check_190 rfl rfl hv
      · replace hv := hv.1 w5
        refine a_iload eX8_check_176 rfl ?_
        refine a_iload_n eX8_check_178 rfl ?_
        refine a_icmp_ne (tgt := 186) eX8_check_179 (by decide) (fun w6 => ?_) (fun w6 => ?_)
        · replace hv := hv.2 w6
          refine a_iconst (v := 1) eX8_check_186 (by decide) ?_
          refine a_iload eX8_check_187 rfl ?_
          refine a_iadd eX8_check_189 ?_
          exact a_iret eX8_check_190 rfl rfl hv
        · replace hv := hv.1 w6
          refine a_iconst (v := 0) eX8_check_182 (by decide) ?_
          refine a_goto (tgt := 190) eX8_check_183 (by decide) ?_
          exact a_iret eX8_check_190 rfl rfl hv
    · replace hv := hv.2 w4
      refine a_aload_n eX8_check_147 rfl ?_
      refine gX8_29 eX8_check_148 fl_X8_61 ?_
      refine a_iload eX8_check_151 rfl ?_
      obtain ⟨h7, hv⟩ := hv
      refine a_iald eX8_check_153 sA118 kA118 h7 ?_
      refine a_aload_n eX8_check_154 rfl ?_
      refine gX8_31 eX8_check_155 fl_X8_64 ?_
      refine a_iload eX8_check_158 rfl ?_
      obtain ⟨h8, hv⟩ := hv
      refine a_iald eX8_check_160 sA119 kA119 h8 ?_
      refine a_icmp_ne (tgt := 170) eX8_check_161 (by decide) (fun w9 => ?_) (fun w9 => ?_)
      · replace hv := hv.2 w9
        refine a_iload eX8_check_170 rfl ?_
        refine a_iload_n eX8_check_172 rfl ?_
        refine a_icmp_ne (tgt := 186) eX8_check_173 (by decide) (fun w10 => ?_) (fun w10 => ?_)
        · replace hv := hv.2 w10
          refine a_iconst (v := 1) eX8_check_186 (by decide) ?_
          refine a_iload eX8_check_187 rfl ?_
          refine a_iadd eX8_check_189 ?_
          exact a_iret eX8_check_190 rfl rfl hv
        · replace hv := hv.1 w10
          refine a_iload eX8_check_176 rfl ?_
          refine a_iload_n eX8_check_178 rfl ?_
          refine a_icmp_ne (tgt := 186) eX8_check_179 (by decide) (fun w11 => ?_) (fun w11 => ?_)
          · replace hv := hv.2 w11
            refine a_iconst (v := 1) eX8_check_186 (by decide) ?_
            refine a_iload eX8_check_187 rfl ?_
            refine a_iadd eX8_check_189 ?_
            exact a_iret eX8_check_190 rfl rfl hv
          · replace hv := hv.1 w11
            refine a_iconst (v := 0) eX8_check_182 (by decide) ?_
            refine a_goto (tgt := 190) eX8_check_183 (by decide) ?_
            exact a_iret eX8_check_190 rfl rfl hv
      · replace hv := hv.1 w9
        refine a_iinc (v := 1) (vs' := [some (.ref (G.1 100)), none, some (.int v2), some (.int v3), some (.int (v4 + 1))]) eX8_check_164 rfl rfl (by decide) rfl ?_
        refine a_goto (tgt := 135) eX8_check_167 (by decide) ?_
        exact a_weak [true, false, true, true, true] rfl rfl hv
theorem tX8_keep {l : Launch} {G : GT} {d : Nat} {M : Mem} {R : Option Value → Mem → Prop}  (hv : Tr l G (d + 3) mX8_setAside [.ref (G.1 100), .ref (G.1 101), .ref (G.1 102)] (um M 100 3 1) (kV fun M' => At l G (d + 4) mX8_keep 17 [some (.ref (G.1 100))] [] M' R)) : Tr l G (d + 4) mX8_keep [.ref (G.1 100)] M R := by
  refine Tr.of rfl (Nat.le_of_ble_eq_true rfl) (vs := [some (.ref (G.1 100))]) rfl ?_
  refine a_aload_n eX8_keep_0 rfl ?_
  refine a_iconst (v := 1) eX8_keep_1 (by decide) ?_
  refine pX8_3 eX8_keep_2 fl_X8_355 ?_
  refine a_aload_n eX8_keep_5 rfl ?_
  refine a_aload_n eX8_keep_6 rfl ?_
  refine gX8_0 eX8_keep_7 fl_X8_7 ?_
  refine a_aload_n eX8_keep_10 rfl ?_
  refine gX8_1 eX8_keep_11 fl_X8_13 ?_
  exact qX8_359 rfl eX8_keep_14 (Nat.le_of_ble_eq_true rfl) (tr_V [true] rfl rfl hv)
theorem bX8_keep_17 {l : Launch} {G : GT} {d : Nat} {M : Mem} {R : Option Value → Mem → Prop}  (hv : R (some (.int (M 101 0))) M) : At l G (d + 4) mX8_keep 17 [some (.ref (G.1 100))] [] M R := by
  refine a_aload_n eX8_keep_17 rfl ?_
  refine gX8_0 eX8_keep_18 fl_X8_7 ?_
  refine a_iconst (v := 0) eX8_keep_21 (by decide) ?_
  refine a_ialdc 0 eX8_keep_22 sA101 kA101 (by decide) (by decide) ?_
  exact a_iret eX8_keep_23 rfl rfl hv
theorem tX8_back {l : Launch} {G : GT} {d : Nat} {M : Mem} {R : Option Value → Mem → Prop}  (hv : ((M 100 3) = 0 → R (some (.int (-1000000002))) M) ∧ (¬ ((M 100 3) = 0) → Tr l G (d + 3) mX8_setAside [.ref (G.1 100), .ref (G.1 102), .ref (G.1 101)] M (kV fun M' => At l G (d + 4) mX8_back 22 [some (.ref (G.1 100))] [] M' R))) : Tr l G (d + 4) mX8_back [.ref (G.1 100)] M R := by
  refine Tr.of rfl (Nat.le_of_ble_eq_true rfl) (vs := [some (.ref (G.1 100))]) rfl ?_
  refine a_aload_n eX8_back_0 rfl ?_
  refine gX8_3 eX8_back_1 fl_X8_355 ?_
  refine a_if_ne (tgt := 10) eX8_back_4 (by decide) (fun w1 => ?_) (fun w1 => ?_)
  · replace hv := hv.2 w1
    refine a_aload_n eX8_back_10 rfl ?_
    refine a_aload_n eX8_back_11 rfl ?_
    refine gX8_1 eX8_back_12 fl_X8_13 ?_
    refine a_aload_n eX8_back_15 rfl ?_
    refine gX8_0 eX8_back_16 fl_X8_7 ?_
    exact qX8_359 rfl eX8_back_19 (Nat.le_of_ble_eq_true rfl) (tr_V [true] rfl rfl hv)
  · replace hv := hv.1 w1
    refine a_ldc eX8_back_7 kc_X8_152 ?_
    exact a_iret eX8_back_9 rfl rfl hv
theorem bX8_back_22 {l : Launch} {G : GT} {d : Nat} {M : Mem} {R : Option Value → Mem → Prop}  (hv : R (some (.int (M 101 0))) M) : At l G (d + 4) mX8_back 22 [some (.ref (G.1 100))] [] M R := by
  refine a_aload_n eX8_back_22 rfl ?_
  refine gX8_0 eX8_back_23 fl_X8_7 ?_
  refine a_iconst (v := 0) eX8_back_26 (by decide) ?_
  refine a_ialdc 0 eX8_back_27 sA101 kA101 (by decide) (by decide) ?_
  exact a_iret eX8_back_28 rfl rfl hv
theorem tX8_count {l : Launch} {G : GT} {d : Nat} {M : Mem} {R : Option Value → Mem → Prop} {v1 : Int32} (hv : (v1 = 0 → R (some (.int (M 101 0))) M) ∧ (v1 = 1 → R (some (.int (M 101 2))) M) ∧ (v1 = 2 → R (some (.int (M 101 3))) M) ∧ (v1 = 3 → R (some (.int (M 101 4))) M) ∧ (v1 = 4 → R (some (.int (M 101 5))) M) ∧ (v1 = 5 → R (some (.int (M 101 1))) M) ∧ (v1 = 6 → R (some (.int (M 100 30))) M) ∧ (v1 = 7 → R (some (.int (M 100 15))) M) ∧ (v1 = 8 → R (some (.int (M 101 9))) M) ∧ (¬ v1 = 0 → ¬ v1 = 1 → ¬ v1 = 2 → ¬ v1 = 3 → ¬ v1 = 4 → ¬ v1 = 5 → ¬ v1 = 6 → ¬ v1 = 7 → ¬ v1 = 8 → R (some (.int (-1000000001))) M)) : Tr l G (d + 4) mX8_count [.ref (G.1 100), .int v1] M R := by
  refine Tr.of rfl (Nat.le_of_ble_eq_true rfl) (vs := [some (.ref (G.1 100)), some (.int v1)]) rfl ?_
  refine a_iload_n eX8_count_0 rfl ?_
  by_cases w1 : v1 = 0
  · refine a_tswIn 0 (tgt := 52) eX8_count_1 w1 (by decide) (by decide) rfl (by decide) ?_
    replace hv := hv.1 w1
    refine a_aload_n eX8_count_52 rfl ?_
    refine gX8_0 eX8_count_53 fl_X8_7 ?_
    refine a_iconst (v := 0) eX8_count_56 (by decide) ?_
    refine a_ialdc 0 eX8_count_57 sA101 kA101 (by decide) (by decide) ?_
    exact a_iret eX8_count_58 rfl rfl hv
  by_cases w2 : v1 = 1
  · refine a_tswIn 1 (tgt := 59) eX8_count_1 w2 (by decide) (by decide) rfl (by decide) ?_
    replace hv := hv.2.1 w2
    refine a_aload_n eX8_count_59 rfl ?_
    refine gX8_0 eX8_count_60 fl_X8_7 ?_
    refine a_iconst (v := 2) eX8_count_63 (by decide) ?_
    refine a_ialdc 2 eX8_count_64 sA101 kA101 (by decide) (by decide) ?_
    exact a_iret eX8_count_65 rfl rfl hv
  by_cases w3 : v1 = 2
  · refine a_tswIn 2 (tgt := 66) eX8_count_1 w3 (by decide) (by decide) rfl (by decide) ?_
    replace hv := hv.2.2.1 w3
    refine a_aload_n eX8_count_66 rfl ?_
    refine gX8_0 eX8_count_67 fl_X8_7 ?_
    refine a_iconst (v := 3) eX8_count_70 (by decide) ?_
    refine a_ialdc 3 eX8_count_71 sA101 kA101 (by decide) (by decide) ?_
    exact a_iret eX8_count_72 rfl rfl hv
  by_cases w4 : v1 = 3
  · refine a_tswIn 3 (tgt := 73) eX8_count_1 w4 (by decide) (by decide) rfl (by decide) ?_
    replace hv := hv.2.2.2.1 w4
    refine a_aload_n eX8_count_73 rfl ?_
    refine gX8_0 eX8_count_74 fl_X8_7 ?_
    refine a_iconst (v := 4) eX8_count_77 (by decide) ?_
    refine a_ialdc 4 eX8_count_78 sA101 kA101 (by decide) (by decide) ?_
    exact a_iret eX8_count_79 rfl rfl hv
  by_cases w5 : v1 = 4
  · refine a_tswIn 4 (tgt := 80) eX8_count_1 w5 (by decide) (by decide) rfl (by decide) ?_
    replace hv := hv.2.2.2.2.1 w5
    refine a_aload_n eX8_count_80 rfl ?_
    refine gX8_0 eX8_count_81 fl_X8_7 ?_
    refine a_iconst (v := 5) eX8_count_84 (by decide) ?_
    refine a_ialdc 5 eX8_count_85 sA101 kA101 (by decide) (by decide) ?_
    exact a_iret eX8_count_86 rfl rfl hv
  by_cases w6 : v1 = 5
  · refine a_tswIn 5 (tgt := 87) eX8_count_1 w6 (by decide) (by decide) rfl (by decide) ?_
    replace hv := hv.2.2.2.2.2.1 w6
    refine a_aload_n eX8_count_87 rfl ?_
    refine gX8_0 eX8_count_88 fl_X8_7 ?_
    refine a_iconst (v := 1) eX8_count_91 (by decide) ?_
    refine a_ialdc 1 eX8_count_92 sA101 kA101 (by decide) (by decide) ?_
    exact a_iret eX8_count_93 rfl rfl hv
  by_cases w7 : v1 = 6
  · refine a_tswIn 6 (tgt := 94) eX8_count_1 w7 (by decide) (by decide) rfl (by decide) ?_
    replace hv := hv.2.2.2.2.2.2.1 w7
    refine a_aload_n eX8_count_94 rfl ?_
    refine gX8_30 eX8_count_95 fl_X8_350 ?_
    exact a_iret eX8_count_98 rfl rfl hv
  by_cases w8 : v1 = 7
  · refine a_tswIn 7 (tgt := 99) eX8_count_1 w8 (by decide) (by decide) rfl (by decide) ?_
    replace hv := hv.2.2.2.2.2.2.2.1 w8
    refine a_aload_n eX8_count_99 rfl ?_
    refine gX8_15 eX8_count_100 fl_X8_233 ?_
    exact a_iret eX8_count_103 rfl rfl hv
  by_cases w9 : v1 = 8
  · refine a_tswIn 8 (tgt := 104) eX8_count_1 w9 (by decide) (by decide) rfl (by decide) ?_
    replace hv := hv.2.2.2.2.2.2.2.2.1 w9
    refine a_aload_n eX8_count_104 rfl ?_
    refine gX8_0 eX8_count_105 fl_X8_7 ?_
    refine a_bipush (v := 9) eX8_count_108 (by decide) ?_
    refine a_ialdc 9 eX8_count_110 sA101 kA101 (by decide) (by decide) ?_
    exact a_iret eX8_count_111 rfl rfl hv
  refine a_tswOut (tgt := 112) eX8_count_1 (by have zw1 := lv_neT (a := 0) w1 (by decide); have zw2 := lv_neT (a := 1) w2 (by decide); have zw3 := lv_neT (a := 2) w3 (by decide); have zw4 := lv_neT (a := 3) w4 (by decide); have zw5 := lv_neT (a := 4) w5 (by decide); have zw6 := lv_neT (a := 5) w6 (by decide); have zw7 := lv_neT (a := 6) w7 (by decide); have zw8 := lv_neT (a := 7) w8 (by decide); have zw9 := lv_neT (a := 8) w9 (by decide); omega) (by decide) ?_
  replace hv := hv.2.2.2.2.2.2.2.2.2 w1 w2 w3 w4 w5 w6 w7 w8 w9
  refine a_ldc eX8_count_112 kc_X8_117 ?_
  exact a_iret eX8_count_114 rfl rfl hv
