theorem tX7_one {l : Launch} {G : GT} {d : Nat} {M : Mem} {R : Option Value → Mem → Prop} {v1 : Int32} {v2 : Int32} {v3 : Int32} (hv : (v1 < 0 → R (some (.int (-1000000001))) M) ∧ (¬ (v1 < 0) → (6 ≤ v1 → R (some (.int (-1000000001))) M) ∧ (¬ (6 ≤ v1) → (v2 < 0 → R (some (.int (-1000000001))) M) ∧ (¬ (v2 < 0) → (10 ≤ v2 → R (some (.int (-1000000001))) M) ∧ (¬ (10 ≤ v2) → (v3 < 0 → R (some (.int (-1000000001))) M) ∧ (¬ (v3 < 0) → (v3 ≤ 99 → Tr l G (d + 3) mX1_addOne [.ref (G.1 30), .int v1, .int v2, .int v3, .int 0] M (kI fun q M' => At l G (d + 4) mX7_one 38 [none, none, none, none] [.int q] M' R)) ∧ (¬ (v3 ≤ 99) → R (some (.int (-1000000001))) M))))))) : Tr l G (d + 4) mX7_one [.ref (G.1 0), .int v1, .int v2, .int v3] M R := by
  refine Tr.of rfl (Nat.le_of_ble_eq_true rfl) (vs := [some (.ref (G.1 0)), some (.int v1), some (.int v2), some (.int v3)]) rfl ?_
  refine a_iload_n eX7_one_0 rfl ?_
  refine qX7_66 rfl eX7_one_1 (Nat.le_of_ble_eq_true rfl) ?_
  refine Tr.of rfl (Nat.le_of_ble_eq_true rfl) (vs := [some (.int v1)]) rfl ?_
  refine a_iload_n eX7_isKind_0 rfl ?_
  refine a_if_lt (tgt := 14) eX7_isKind_1 (by decide) (fun w1 => ?_) (fun w1 => ?_)
  · replace hv := hv.1 w1
    refine a_iconst (v := 0) eX7_isKind_14 (by decide) ?_
    refine a_iret eX7_isKind_15 rfl rfl (ret_i ?_)
    refine a_if_eq (tgt := 24) eX7_one_4 (by decide) (fun _ => ?_) (fun h => absurd h (by decide))
    refine a_ldc eX7_one_24 kc_X7_73 ?_
    exact a_iret eX7_one_26 rfl rfl hv
  · replace hv := hv.2 w1
    refine a_iload_n eX7_isKind_4 rfl ?_
    refine a_bipush (v := 6) eX7_isKind_5 (by decide) ?_
    refine a_icmp_ge (tgt := 14) eX7_isKind_7 (by decide) (fun w2 => ?_) (fun w2 => ?_)
    · replace hv := hv.1 w2
      refine a_iconst (v := 0) eX7_isKind_14 (by decide) ?_
      refine a_iret eX7_isKind_15 rfl rfl (ret_i ?_)
      refine a_if_eq (tgt := 24) eX7_one_4 (by decide) (fun _ => ?_) (fun h => absurd h (by decide))
      refine a_ldc eX7_one_24 kc_X7_73 ?_
      exact a_iret eX7_one_26 rfl rfl hv
    · replace hv := hv.2 w2
      refine a_iconst (v := 1) eX7_isKind_10 (by decide) ?_
      refine a_goto (tgt := 15) eX7_isKind_11 (by decide) ?_
      refine a_iret eX7_isKind_15 rfl rfl (ret_i ?_)
      refine a_if_eq (tgt := 24) eX7_one_4 (by decide) (fun h => absurd h (by decide)) (fun _ => ?_)
      refine a_iload_n eX7_one_7 rfl ?_
      refine qX7_70 rfl eX7_one_8 (Nat.le_of_ble_eq_true rfl) ?_
      refine Tr.of rfl (Nat.le_of_ble_eq_true rfl) (vs := [some (.int v2)]) rfl ?_
      refine a_iload_n eX7_isPlace_0 rfl ?_
      refine a_if_lt (tgt := 14) eX7_isPlace_1 (by decide) (fun w3 => ?_) (fun w3 => ?_)
      · replace hv := hv.1 w3
        refine a_iconst (v := 0) eX7_isPlace_14 (by decide) ?_
        refine a_iret eX7_isPlace_15 rfl rfl (ret_i ?_)
        refine a_if_eq (tgt := 24) eX7_one_11 (by decide) (fun _ => ?_) (fun h => absurd h (by decide))
        refine a_ldc eX7_one_24 kc_X7_73 ?_
        exact a_iret eX7_one_26 rfl rfl hv
      · replace hv := hv.2 w3
        refine a_iload_n eX7_isPlace_4 rfl ?_
        refine a_bipush (v := 10) eX7_isPlace_5 (by decide) ?_
        refine a_icmp_ge (tgt := 14) eX7_isPlace_7 (by decide) (fun w4 => ?_) (fun w4 => ?_)
        · replace hv := hv.1 w4
          refine a_iconst (v := 0) eX7_isPlace_14 (by decide) ?_
          refine a_iret eX7_isPlace_15 rfl rfl (ret_i ?_)
          refine a_if_eq (tgt := 24) eX7_one_11 (by decide) (fun _ => ?_) (fun h => absurd h (by decide))
          refine a_ldc eX7_one_24 kc_X7_73 ?_
          exact a_iret eX7_one_26 rfl rfl hv
        · replace hv := hv.2 w4
          refine a_iconst (v := 1) eX7_isPlace_10 (by decide) ?_
          refine a_goto (tgt := 15) eX7_isPlace_11 (by decide) ?_
          refine a_iret eX7_isPlace_15 rfl rfl (ret_i ?_)
          refine a_if_eq (tgt := 24) eX7_one_11 (by decide) (fun h => absurd h (by decide)) (fun _ => ?_)
          refine a_iload_n eX7_one_14 rfl ?_
          refine a_if_lt (tgt := 24) eX7_one_15 (by decide) (fun w5 => ?_) (fun w5 => ?_)
          · replace hv := hv.1 w5
            refine a_ldc eX7_one_24 kc_X7_73 ?_
            exact a_iret eX7_one_26 rfl rfl hv
          · replace hv := hv.2 w5
            refine a_iload_n eX7_one_18 rfl ?_
            refine a_bipush (v := 99) eX7_one_19 (by decide) ?_
            refine a_icmp_le (tgt := 27) eX7_one_21 (by decide) (fun w6 => ?_) (fun w6 => ?_)
            · replace hv := hv.1 w6
              refine a_aload_n eX7_one_27 rfl ?_
              refine gX7_2 eX7_one_28 fl_X7_28 ?_
              refine a_iload_n eX7_one_31 rfl ?_
              refine a_iload_n eX7_one_32 rfl ?_
              refine a_iload_n eX7_one_33 rfl ?_
              refine a_iconst (v := 0) eX7_one_34 (by decide) ?_
              exact qX7_74 ld30 rfl eX7_one_35 (Nat.le_of_ble_eq_true rfl) (tr_I [false, false, false, false] rfl rfl hv)
            · replace hv := hv.2 w6
              refine a_ldc eX7_one_24 kc_X7_73 ?_
              exact a_iret eX7_one_26 rfl rfl hv
theorem bX7_one_38 {l : Launch} {G : GT} {d : Nat} {M : Mem} {R : Option Value → Mem → Prop} {r : Int32} (hv : R (some (.int r)) M) : At l G (d + 4) mX7_one 38 [none, none, none, none] [.int r] M R := by
  exact a_iret eX7_one_38 rfl rfl hv
theorem tX7_way {l : Launch} {G : GT} {d : Nat} {M : Mem} {R : Option Value → Mem → Prop} {v1 : Int32} {v2 : Int32} (hv : (v1 < 0 → R (some (.int (-1000000001))) M) ∧ (¬ (v1 < 0) → (10 ≤ v1 → R (some (.int (-1000000001))) M) ∧ (¬ (10 ≤ v1) → (v2 < 0 → R (some (.int (-1000000001))) M) ∧ (¬ (v2 < 0) → (10 ≤ v2 → R (some (.int (-1000000001))) M) ∧ (¬ (10 ≤ v2) → (v1 = v2 → R (some (.int (-1000000001))) M) ∧ (¬ (v1 = v2) → Tr l G (d + 3) mX1_addWay [.ref (G.1 30), .int v1, .int v2] M (kI fun q M' => At l G (d + 4) mX7_way 31 [none, none, none] [.int q] M' R))))))) : Tr l G (d + 4) mX7_way [.ref (G.1 0), .int v1, .int v2] M R := by
  refine Tr.of rfl (Nat.le_of_ble_eq_true rfl) (vs := [some (.ref (G.1 0)), some (.int v1), some (.int v2)]) rfl ?_
  refine a_iload_n eX7_way_0 rfl ?_
  refine qX7_70 rfl eX7_way_1 (Nat.le_of_ble_eq_true rfl) ?_
  refine Tr.of rfl (Nat.le_of_ble_eq_true rfl) (vs := [some (.int v1)]) rfl ?_
  refine a_iload_n eX7_isPlace_0 rfl ?_
  refine a_if_lt (tgt := 14) eX7_isPlace_1 (by decide) (fun w1 => ?_) (fun w1 => ?_)
  · replace hv := hv.1 w1
    refine a_iconst (v := 0) eX7_isPlace_14 (by decide) ?_
    refine a_iret eX7_isPlace_15 rfl rfl (ret_i ?_)
    refine a_if_eq (tgt := 19) eX7_way_4 (by decide) (fun _ => ?_) (fun h => absurd h (by decide))
    refine a_ldc eX7_way_19 kc_X7_73 ?_
    exact a_iret eX7_way_21 rfl rfl hv
  · replace hv := hv.2 w1
    refine a_iload_n eX7_isPlace_4 rfl ?_
    refine a_bipush (v := 10) eX7_isPlace_5 (by decide) ?_
    refine a_icmp_ge (tgt := 14) eX7_isPlace_7 (by decide) (fun w2 => ?_) (fun w2 => ?_)
    · replace hv := hv.1 w2
      refine a_iconst (v := 0) eX7_isPlace_14 (by decide) ?_
      refine a_iret eX7_isPlace_15 rfl rfl (ret_i ?_)
      refine a_if_eq (tgt := 19) eX7_way_4 (by decide) (fun _ => ?_) (fun h => absurd h (by decide))
      refine a_ldc eX7_way_19 kc_X7_73 ?_
      exact a_iret eX7_way_21 rfl rfl hv
    · replace hv := hv.2 w2
      refine a_iconst (v := 1) eX7_isPlace_10 (by decide) ?_
      refine a_goto (tgt := 15) eX7_isPlace_11 (by decide) ?_
      refine a_iret eX7_isPlace_15 rfl rfl (ret_i ?_)
      refine a_if_eq (tgt := 19) eX7_way_4 (by decide) (fun h => absurd h (by decide)) (fun _ => ?_)
      refine a_iload_n eX7_way_7 rfl ?_
      refine qX7_70 rfl eX7_way_8 (Nat.le_of_ble_eq_true rfl) ?_
      refine Tr.of rfl (Nat.le_of_ble_eq_true rfl) (vs := [some (.int v2)]) rfl ?_
      refine a_iload_n eX7_isPlace_0 rfl ?_
      refine a_if_lt (tgt := 14) eX7_isPlace_1 (by decide) (fun w3 => ?_) (fun w3 => ?_)
      · replace hv := hv.1 w3
        refine a_iconst (v := 0) eX7_isPlace_14 (by decide) ?_
        refine a_iret eX7_isPlace_15 rfl rfl (ret_i ?_)
        refine a_if_eq (tgt := 19) eX7_way_11 (by decide) (fun _ => ?_) (fun h => absurd h (by decide))
        refine a_ldc eX7_way_19 kc_X7_73 ?_
        exact a_iret eX7_way_21 rfl rfl hv
      · replace hv := hv.2 w3
        refine a_iload_n eX7_isPlace_4 rfl ?_
        refine a_bipush (v := 10) eX7_isPlace_5 (by decide) ?_
        refine a_icmp_ge (tgt := 14) eX7_isPlace_7 (by decide) (fun w4 => ?_) (fun w4 => ?_)
        · replace hv := hv.1 w4
          refine a_iconst (v := 0) eX7_isPlace_14 (by decide) ?_
          refine a_iret eX7_isPlace_15 rfl rfl (ret_i ?_)
          refine a_if_eq (tgt := 19) eX7_way_11 (by decide) (fun _ => ?_) (fun h => absurd h (by decide))
          refine a_ldc eX7_way_19 kc_X7_73 ?_
          exact a_iret eX7_way_21 rfl rfl hv
        · replace hv := hv.2 w4
          refine a_iconst (v := 1) eX7_isPlace_10 (by decide) ?_
          refine a_goto (tgt := 15) eX7_isPlace_11 (by decide) ?_
          refine a_iret eX7_isPlace_15 rfl rfl (ret_i ?_)
          refine a_if_eq (tgt := 19) eX7_way_11 (by decide) (fun h => absurd h (by decide)) (fun _ => ?_)
          refine a_iload_n eX7_way_14 rfl ?_
          refine a_iload_n eX7_way_15 rfl ?_
          refine a_icmp_ne (tgt := 22) eX7_way_16 (by decide) (fun w5 => ?_) (fun w5 => ?_)
          · replace hv := hv.2 w5
            refine a_aload_n eX7_way_22 rfl ?_
            refine gX7_2 eX7_way_23 fl_X7_28 ?_
            refine a_iload_n eX7_way_26 rfl ?_
            refine a_iload_n eX7_way_27 rfl ?_
            exact qX7_78 ld30 rfl eX7_way_28 (Nat.le_of_ble_eq_true rfl) (tr_I [false, false, false] rfl rfl hv)
          · replace hv := hv.1 w5
            refine a_ldc eX7_way_19 kc_X7_73 ?_
            exact a_iret eX7_way_21 rfl rfl hv
theorem bX7_way_31 {l : Launch} {G : GT} {d : Nat} {M : Mem} {R : Option Value → Mem → Prop} {r : Int32} (hv : R (some (.int r)) M) : At l G (d + 4) mX7_way 31 [none, none, none] [.int r] M R := by
  exact a_iret eX7_way_31 rfl rfl hv
theorem tX7_told {l : Launch} {G : GT} {d : Nat} {M : Mem} {R : Option Value → Mem → Prop} {v1 : Int32} {v2 : Int32} (hv : (v1 < 0 → R (some (.int (-1000000001))) M) ∧ (¬ (v1 < 0) → ((M 30 1) ≤ v1 → R (some (.int (-1000000001))) M) ∧ (¬ ((M 30 1) ≤ v1) → (v2 = 0 → vp_in v1 8 ∧ R (some (.int (M 31 (ix v1)))) M) ∧ (v2 = 1 → vp_in v1 8 ∧ R (some (.int (M 32 (ix v1)))) M) ∧ (v2 = 2 → vp_in v1 8 ∧ R (some (.int (M 33 (ix v1)))) M) ∧ (v2 = 3 → vp_in v1 8 ∧ R (some (.int (M 34 (ix v1)))) M) ∧ (v2 = 4 → vp_in v1 8 ∧ Tr l G (d + 3) mX1_readBy [.ref (G.1 30), .int v1, .int (M 32 (ix v1))] M (kI fun q M' => At l G (d + 4) mX7_told 113 [none, none, none] [.int q] M' R)) ∧ (v2 = 5 → Tr l G (d + 3) mX1_urgeOf [.ref (G.1 30), .int v1] M (kI fun q M' => At l G (d + 4) mX7_told 122 [none, none, none] [.int q] M' R)) ∧ (v2 = 6 → vp_in v1 8 ∧ vp_in v1 8 ∧ Tr l G (d + 3) mX0_worth [.int (M 31 (ix v1)), .int (M 34 (ix v1))] M (kI fun q M' => At l G (d + 4) mX7_told 144 [none, none, none] [.int q] M' R)) ∧ (¬ v2 = 0 → ¬ v2 = 1 → ¬ v2 = 2 → ¬ v2 = 3 → ¬ v2 = 4 → ¬ v2 = 5 → ¬ v2 = 6 → R (some (.int (-1000000001))) M)))) : Tr l G (d + 4) mX7_told [.ref (G.1 0), .int v1, .int v2] M R := by
  refine Tr.of rfl (Nat.le_of_ble_eq_true rfl) (vs := [some (.ref (G.1 0)), some (.int v1), some (.int v2)]) rfl ?_
  refine a_aload_n eX7_told_0 rfl ?_
  refine a_iload_n eX7_told_1 rfl ?_
  refine qX7_82 rfl eX7_told_2 (Nat.le_of_ble_eq_true rfl) ?_
  refine Tr.of rfl (Nat.le_of_ble_eq_true rfl) (vs := [some (.ref (G.1 0)), some (.int v1)]) rfl ?_
  refine a_iload_n eX7_isOne_0 rfl ?_
  refine a_if_lt (tgt := 19) eX7_isOne_1 (by decide) (fun w1 => ?_) (fun w1 => ?_)
  · replace hv := hv.1 w1
    refine a_iconst (v := 0) eX7_isOne_19 (by decide) ?_
    refine a_iret eX7_isOne_20 rfl rfl (ret_i ?_)
    refine a_if_ne (tgt := 11) eX7_told_5 (by decide) (fun h => absurd h (by decide)) (fun _ => ?_)
    refine a_ldc eX7_told_8 kc_X7_73 ?_
    exact a_iret eX7_told_10 rfl rfl hv
  · replace hv := hv.2 w1
    refine a_iload_n eX7_isOne_4 rfl ?_
    refine a_aload_n eX7_isOne_5 rfl ?_
    refine gX7_2 eX7_isOne_6 fl_X7_28 ?_
    refine gX1_1 ld30 eX7_isOne_9 fl_X7_148 ?_
    refine a_icmp_ge (tgt := 19) eX7_isOne_12 (by decide) (fun w2 => ?_) (fun w2 => ?_)
    · replace hv := hv.1 w2
      refine a_iconst (v := 0) eX7_isOne_19 (by decide) ?_
      refine a_iret eX7_isOne_20 rfl rfl (ret_i ?_)
      refine a_if_ne (tgt := 11) eX7_told_5 (by decide) (fun h => absurd h (by decide)) (fun _ => ?_)
      refine a_ldc eX7_told_8 kc_X7_73 ?_
      exact a_iret eX7_told_10 rfl rfl hv
    · replace hv := hv.2 w2
      refine a_iconst (v := 1) eX7_isOne_15 (by decide) ?_
      refine a_goto (tgt := 20) eX7_isOne_16 (by decide) ?_
      refine a_iret eX7_isOne_20 rfl rfl (ret_i ?_)
      refine a_if_ne (tgt := 11) eX7_told_5 (by decide) (fun _ => ?_) (fun h => absurd h (by decide))
      refine a_iload_n eX7_told_11 rfl ?_
      by_cases w4 : v2 = 0
      · refine a_tswIn 0 (tgt := 56) eX7_told_12 w4 (by decide) (by decide) rfl (by decide) ?_
        replace hv := hv.1 w4
        refine a_aload_n eX7_told_56 rfl ?_
        refine gX7_2 eX7_told_57 fl_X7_28 ?_
        refine gX1_2 ld30 eX7_told_60 fl_X7_85 ?_
        refine a_iload_n eX7_told_63 rfl ?_
        obtain ⟨h3, hv⟩ := hv
        refine a_iald eX7_told_64 (ld_8 ld30 1 (by decide)) (ld_in ld30 1 (by decide)) h3 ?_
        exact a_iret eX7_told_65 rfl rfl hv
      by_cases w6 : v2 = 1
      · refine a_tswIn 1 (tgt := 66) eX7_told_12 w6 (by decide) (by decide) rfl (by decide) ?_
        replace hv := hv.2.1 w6
        refine a_aload_n eX7_told_66 rfl ?_
        refine gX7_2 eX7_told_67 fl_X7_28 ?_
        refine gX1_3 ld30 eX7_told_70 fl_X7_88 ?_
        refine a_iload_n eX7_told_73 rfl ?_
        obtain ⟨h5, hv⟩ := hv
        refine a_iald eX7_told_74 (ld_8 ld30 2 (by decide)) (ld_in ld30 2 (by decide)) h5 ?_
        exact a_iret eX7_told_75 rfl rfl hv
      by_cases w8 : v2 = 2
      · refine a_tswIn 2 (tgt := 76) eX7_told_12 w8 (by decide) (by decide) rfl (by decide) ?_
        replace hv := hv.2.2.1 w8
        refine a_aload_n eX7_told_76 rfl ?_
        refine gX7_2 eX7_told_77 fl_X7_28 ?_
        refine gX1_4 ld30 eX7_told_80 fl_X7_91 ?_
        refine a_iload_n eX7_told_83 rfl ?_
        obtain ⟨h7, hv⟩ := hv
        refine a_iald eX7_told_84 (ld_8 ld30 3 (by decide)) (ld_in ld30 3 (by decide)) h7 ?_
        exact a_iret eX7_told_85 rfl rfl hv
      by_cases w10 : v2 = 3
      · refine a_tswIn 3 (tgt := 86) eX7_told_12 w10 (by decide) (by decide) rfl (by decide) ?_
        replace hv := hv.2.2.2.1 w10
        refine a_aload_n eX7_told_86 rfl ?_
        refine gX7_2 eX7_told_87 fl_X7_28 ?_
        refine gX1_5 ld30 eX7_told_90 fl_X7_94 ?_
        refine a_iload_n eX7_told_93 rfl ?_
        obtain ⟨h9, hv⟩ := hv
        refine a_iald eX7_told_94 (ld_8 ld30 4 (by decide)) (ld_in ld30 4 (by decide)) h9 ?_
        exact a_iret eX7_told_95 rfl rfl hv
      by_cases w12 : v2 = 4
      · refine a_tswIn 4 (tgt := 96) eX7_told_12 w12 (by decide) (by decide) rfl (by decide) ?_
        replace hv := hv.2.2.2.2.1 w12
        refine a_aload_n eX7_told_96 rfl ?_
        refine gX7_2 eX7_told_97 fl_X7_28 ?_
        refine a_iload_n eX7_told_100 rfl ?_
        refine a_aload_n eX7_told_101 rfl ?_
        refine gX7_2 eX7_told_102 fl_X7_28 ?_
        refine gX1_3 ld30 eX7_told_105 fl_X7_88 ?_
        refine a_iload_n eX7_told_108 rfl ?_
        obtain ⟨h11, hv⟩ := hv
        refine a_iald eX7_told_109 (ld_8 ld30 2 (by decide)) (ld_in ld30 2 (by decide)) h11 ?_
        exact qX7_97 ld30 rfl eX7_told_110 (Nat.le_of_ble_eq_true rfl) (tr_I [false, false, false] rfl rfl hv)
      by_cases w13 : v2 = 5
      · refine a_tswIn 5 (tgt := 114) eX7_told_12 w13 (by decide) (by decide) rfl (by decide) ?_
        replace hv := hv.2.2.2.2.2.1 w13
        refine a_aload_n eX7_told_114 rfl ?_
        refine gX7_2 eX7_told_115 fl_X7_28 ?_
        refine a_iload_n eX7_told_118 rfl ?_
        exact qX7_100 ld30 rfl eX7_told_119 (Nat.le_of_ble_eq_true rfl) (tr_I [false, false, false] rfl rfl hv)
      by_cases w16 : v2 = 6
      · refine a_tswIn 6 (tgt := 123) eX7_told_12 w16 (by decide) (by decide) rfl (by decide) ?_
        replace hv := hv.2.2.2.2.2.2.1 w16
        refine a_aload_n eX7_told_123 rfl ?_
        refine gX7_2 eX7_told_124 fl_X7_28 ?_
        refine gX1_2 ld30 eX7_told_127 fl_X7_85 ?_
        refine a_iload_n eX7_told_130 rfl ?_
        obtain ⟨h14, hv⟩ := hv
        refine a_iald eX7_told_131 (ld_8 ld30 1 (by decide)) (ld_in ld30 1 (by decide)) h14 ?_
        refine a_aload_n eX7_told_132 rfl ?_
        refine gX7_2 eX7_told_133 fl_X7_28 ?_
        refine gX1_5 ld30 eX7_told_136 fl_X7_94 ?_
        refine a_iload_n eX7_told_139 rfl ?_
        obtain ⟨h15, hv⟩ := hv
        refine a_iald eX7_told_140 (ld_8 ld30 4 (by decide)) (ld_in ld30 4 (by decide)) h15 ?_
        exact qX7_104 rfl eX7_told_141 (Nat.le_of_ble_eq_true rfl) (tr_I [false, false, false] rfl rfl hv)
      refine a_tswOut (tgt := 145) eX7_told_12 (by have zw4 := lv_neT (a := 0) w4 (by decide); have zw6 := lv_neT (a := 1) w6 (by decide); have zw8 := lv_neT (a := 2) w8 (by decide); have zw10 := lv_neT (a := 3) w10 (by decide); have zw12 := lv_neT (a := 4) w12 (by decide); have zw13 := lv_neT (a := 5) w13 (by decide); have zw16 := lv_neT (a := 6) w16 (by decide); omega) (by decide) ?_
      replace hv := hv.2.2.2.2.2.2.2 w4 w6 w8 w10 w12 w13 w16
      refine a_ldc eX7_told_145 kc_X7_73 ?_
      exact a_iret eX7_told_147 rfl rfl hv
theorem bX7_told_144 {l : Launch} {G : GT} {d : Nat} {M : Mem} {R : Option Value → Mem → Prop} {r : Int32} (hv : R (some (.int r)) M) : At l G (d + 4) mX7_told 144 [none, none, none] [.int r] M R := by
  exact a_iret eX7_told_144 rfl rfl hv
theorem bX7_told_122 {l : Launch} {G : GT} {d : Nat} {M : Mem} {R : Option Value → Mem → Prop} {r : Int32} (hv : R (some (.int r)) M) : At l G (d + 4) mX7_told 122 [none, none, none] [.int r] M R := by
  exact a_iret eX7_told_122 rfl rfl hv
theorem bX7_told_113 {l : Launch} {G : GT} {d : Nat} {M : Mem} {R : Option Value → Mem → Prop} {r : Int32} (hv : R (some (.int r)) M) : At l G (d + 4) mX7_told 113 [none, none, none] [.int r] M R := by
  exact a_iret eX7_told_113 rfl rfl hv
theorem tX7_as {l : Launch} {G : GT} {d : Nat} {M : Mem} {R : Option Value → Mem → Prop} {v1 : Int32} {v2 : Int32} (hv : (v1 < 0 → R (some (.int (-1000000001))) M) ∧ (¬ (v1 < 0) → ((M 30 1) ≤ v1 → R (some (.int (-1000000001))) M) ∧ (¬ ((M 30 1) ≤ v1) → (v2 < 0 → R (some (.int (-1000000001))) M) ∧ (¬ (v2 < 0) → (6 ≤ v2 → R (some (.int (-1000000001))) M) ∧ (¬ (6 ≤ v2) → vp_in v1 8 ∧ Tr l G (d + 3) mX0_isUnder [.int (M 31 (ix v1)), .int v2] M (kI fun q M' => At l G (d + 4) mX7_as 31 [some (.ref (G.1 0)), some (.int v1), none] [.int q] M' R)))))) : Tr l G (d + 4) mX7_as [.ref (G.1 0), .int v1, .int v2] M R := by
  refine Tr.of rfl (Nat.le_of_ble_eq_true rfl) (vs := [some (.ref (G.1 0)), some (.int v1), some (.int v2)]) rfl ?_
  refine a_aload_n eX7_as_0 rfl ?_
  refine a_iload_n eX7_as_1 rfl ?_
  refine qX7_82 rfl eX7_as_2 (Nat.le_of_ble_eq_true rfl) ?_
  refine Tr.of rfl (Nat.le_of_ble_eq_true rfl) (vs := [some (.ref (G.1 0)), some (.int v1)]) rfl ?_
  refine a_iload_n eX7_isOne_0 rfl ?_
  refine a_if_lt (tgt := 19) eX7_isOne_1 (by decide) (fun w1 => ?_) (fun w1 => ?_)
  · replace hv := hv.1 w1
    refine a_iconst (v := 0) eX7_isOne_19 (by decide) ?_
    refine a_iret eX7_isOne_20 rfl rfl (ret_i ?_)
    refine a_if_eq (tgt := 15) eX7_as_5 (by decide) (fun _ => ?_) (fun h => absurd h (by decide))
    refine a_ldc eX7_as_15 kc_X7_73 ?_
    exact a_iret eX7_as_17 rfl rfl hv
  · replace hv := hv.2 w1
    refine a_iload_n eX7_isOne_4 rfl ?_
    refine a_aload_n eX7_isOne_5 rfl ?_
    refine gX7_2 eX7_isOne_6 fl_X7_28 ?_
    refine gX1_1 ld30 eX7_isOne_9 fl_X7_148 ?_
    refine a_icmp_ge (tgt := 19) eX7_isOne_12 (by decide) (fun w2 => ?_) (fun w2 => ?_)
    · replace hv := hv.1 w2
      refine a_iconst (v := 0) eX7_isOne_19 (by decide) ?_
      refine a_iret eX7_isOne_20 rfl rfl (ret_i ?_)
      refine a_if_eq (tgt := 15) eX7_as_5 (by decide) (fun _ => ?_) (fun h => absurd h (by decide))
      refine a_ldc eX7_as_15 kc_X7_73 ?_
      exact a_iret eX7_as_17 rfl rfl hv
    · replace hv := hv.2 w2
      refine a_iconst (v := 1) eX7_isOne_15 (by decide) ?_
      refine a_goto (tgt := 20) eX7_isOne_16 (by decide) ?_
      refine a_iret eX7_isOne_20 rfl rfl (ret_i ?_)
      refine a_if_eq (tgt := 15) eX7_as_5 (by decide) (fun h => absurd h (by decide)) (fun _ => ?_)
      refine a_iload_n eX7_as_8 rfl ?_
      refine qX7_66 rfl eX7_as_9 (Nat.le_of_ble_eq_true rfl) ?_
      refine Tr.of rfl (Nat.le_of_ble_eq_true rfl) (vs := [some (.int v2)]) rfl ?_
      refine a_iload_n eX7_isKind_0 rfl ?_
      refine a_if_lt (tgt := 14) eX7_isKind_1 (by decide) (fun w3 => ?_) (fun w3 => ?_)
      · replace hv := hv.1 w3
        refine a_iconst (v := 0) eX7_isKind_14 (by decide) ?_
        refine a_iret eX7_isKind_15 rfl rfl (ret_i ?_)
        refine a_if_ne (tgt := 18) eX7_as_12 (by decide) (fun h => absurd h (by decide)) (fun _ => ?_)
        refine a_ldc eX7_as_15 kc_X7_73 ?_
        exact a_iret eX7_as_17 rfl rfl hv
      · replace hv := hv.2 w3
        refine a_iload_n eX7_isKind_4 rfl ?_
        refine a_bipush (v := 6) eX7_isKind_5 (by decide) ?_
        refine a_icmp_ge (tgt := 14) eX7_isKind_7 (by decide) (fun w4 => ?_) (fun w4 => ?_)
        · replace hv := hv.1 w4
          refine a_iconst (v := 0) eX7_isKind_14 (by decide) ?_
          refine a_iret eX7_isKind_15 rfl rfl (ret_i ?_)
          refine a_if_ne (tgt := 18) eX7_as_12 (by decide) (fun h => absurd h (by decide)) (fun _ => ?_)
          refine a_ldc eX7_as_15 kc_X7_73 ?_
          exact a_iret eX7_as_17 rfl rfl hv
        · replace hv := hv.2 w4
          refine a_iconst (v := 1) eX7_isKind_10 (by decide) ?_
          refine a_goto (tgt := 15) eX7_isKind_11 (by decide) ?_
          refine a_iret eX7_isKind_15 rfl rfl (ret_i ?_)
          refine a_if_ne (tgt := 18) eX7_as_12 (by decide) (fun _ => ?_) (fun h => absurd h (by decide))
          refine a_aload_n eX7_as_18 rfl ?_
          refine gX7_2 eX7_as_19 fl_X7_28 ?_
          refine gX1_2 ld30 eX7_as_22 fl_X7_85 ?_
          refine a_iload_n eX7_as_25 rfl ?_
          obtain ⟨h5, hv⟩ := hv
          refine a_iald eX7_as_26 (ld_8 ld30 1 (by decide)) (ld_in ld30 1 (by decide)) h5 ?_
          refine a_iload_n eX7_as_27 rfl ?_
          exact qX7_109 rfl eX7_as_28 (Nat.le_of_ble_eq_true rfl) (tr_I [true, true, false] rfl rfl hv)
theorem bX7_as_31 {l : Launch} {G : GT} {d : Nat} {M : Mem} {R : Option Value → Mem → Prop} {v1 : Int32} {r : Int32} (hv : (r = 0 → R (some (.int (-1000000012))) M) ∧ (¬ (r = 0) → vp_in v1 8 ∧ R (some (.int (M 32 (ix v1)))) M)) : At l G (d + 4) mX7_as 31 [some (.ref (G.1 0)), some (.int v1), none] [.int r] M R := by
  refine a_if_eq (tgt := 46) eX7_as_31 (by decide) (fun w1 => ?_) (fun w1 => ?_)
  · replace hv := hv.1 w1
    refine a_ldc eX7_as_46 kc_X7_113 ?_
    exact a_iret eX7_as_48 rfl rfl hv
  · replace hv := hv.2 w1
    refine a_aload_n eX7_as_34 rfl ?_
    refine gX7_2 eX7_as_35 fl_X7_28 ?_
    refine gX1_3 ld30 eX7_as_38 fl_X7_88 ?_
    refine a_iload_n eX7_as_41 rfl ?_
    obtain ⟨h2, hv⟩ := hv
    refine a_iald eX7_as_42 (ld_8 ld30 2 (by decide)) (ld_in ld30 2 (by decide)) h2 ?_
    refine a_goto (tgt := 48) eX7_as_43 (by decide) ?_
    exact a_iret eX7_as_48 rfl rfl hv
theorem tX7_turns {l : Launch} {G : GT} {d : Nat} {M : Mem} {R : Option Value → Mem → Prop} {v1 : Int32} {v2 : Int32} (hv : (v1 < 0 → R (some (.int (-1000000001))) M) ∧ (¬ (v1 < 0) → ((M 30 1) ≤ v1 → R (some (.int (-1000000001))) M) ∧ (¬ ((M 30 1) ≤ v1) → (v2 < 0 → R (some (.int (-1000000001))) M) ∧ (¬ (v2 < 0) → (6 ≤ v2 → R (some (.int (-1000000001))) M) ∧ (¬ (6 ≤ v2) → vp_in v1 8 ∧ vp_in v1 8 ∧ R (some (.int (M 31 (ix v1)))) (um M 31 (ix v1) v2)))))) : Tr l G (d + 4) mX7_turns [.ref (G.1 0), .int v1, .int v2] M R := by
  refine Tr.of rfl (Nat.le_of_ble_eq_true rfl) (vs := [some (.ref (G.1 0)), some (.int v1), some (.int v2), none]) rfl ?_
  refine a_aload_n eX7_turns_0 rfl ?_
  refine a_iload_n eX7_turns_1 rfl ?_
  refine qX7_82 rfl eX7_turns_2 (Nat.le_of_ble_eq_true rfl) ?_
  refine Tr.of rfl (Nat.le_of_ble_eq_true rfl) (vs := [some (.ref (G.1 0)), some (.int v1)]) rfl ?_
  refine a_iload_n eX7_isOne_0 rfl ?_
  refine a_if_lt (tgt := 19) eX7_isOne_1 (by decide) (fun w1 => ?_) (fun w1 => ?_)
  · replace hv := hv.1 w1
    refine a_iconst (v := 0) eX7_isOne_19 (by decide) ?_
    refine a_iret eX7_isOne_20 rfl rfl (ret_i ?_)
    refine a_if_eq (tgt := 15) eX7_turns_5 (by decide) (fun _ => ?_) (fun h => absurd h (by decide))
    refine a_ldc eX7_turns_15 kc_X7_73 ?_
    exact a_iret eX7_turns_17 rfl rfl hv
  · replace hv := hv.2 w1
    refine a_iload_n eX7_isOne_4 rfl ?_
    refine a_aload_n eX7_isOne_5 rfl ?_
    refine gX7_2 eX7_isOne_6 fl_X7_28 ?_
    refine gX1_1 ld30 eX7_isOne_9 fl_X7_148 ?_
    refine a_icmp_ge (tgt := 19) eX7_isOne_12 (by decide) (fun w2 => ?_) (fun w2 => ?_)
    · replace hv := hv.1 w2
      refine a_iconst (v := 0) eX7_isOne_19 (by decide) ?_
      refine a_iret eX7_isOne_20 rfl rfl (ret_i ?_)
      refine a_if_eq (tgt := 15) eX7_turns_5 (by decide) (fun _ => ?_) (fun h => absurd h (by decide))
      refine a_ldc eX7_turns_15 kc_X7_73 ?_
      exact a_iret eX7_turns_17 rfl rfl hv
    · replace hv := hv.2 w2
      refine a_iconst (v := 1) eX7_isOne_15 (by decide) ?_
      refine a_goto (tgt := 20) eX7_isOne_16 (by decide) ?_
      refine a_iret eX7_isOne_20 rfl rfl (ret_i ?_)
      refine a_if_eq (tgt := 15) eX7_turns_5 (by decide) (fun h => absurd h (by decide)) (fun _ => ?_)
      refine a_iload_n eX7_turns_8 rfl ?_
      refine qX7_66 rfl eX7_turns_9 (Nat.le_of_ble_eq_true rfl) ?_
      refine Tr.of rfl (Nat.le_of_ble_eq_true rfl) (vs := [some (.int v2)]) rfl ?_
      refine a_iload_n eX7_isKind_0 rfl ?_
      refine a_if_lt (tgt := 14) eX7_isKind_1 (by decide) (fun w3 => ?_) (fun w3 => ?_)
      · replace hv := hv.1 w3
        refine a_iconst (v := 0) eX7_isKind_14 (by decide) ?_
        refine a_iret eX7_isKind_15 rfl rfl (ret_i ?_)
        refine a_if_ne (tgt := 18) eX7_turns_12 (by decide) (fun h => absurd h (by decide)) (fun _ => ?_)
        refine a_ldc eX7_turns_15 kc_X7_73 ?_
        exact a_iret eX7_turns_17 rfl rfl hv
      · replace hv := hv.2 w3
        refine a_iload_n eX7_isKind_4 rfl ?_
        refine a_bipush (v := 6) eX7_isKind_5 (by decide) ?_
        refine a_icmp_ge (tgt := 14) eX7_isKind_7 (by decide) (fun w4 => ?_) (fun w4 => ?_)
        · replace hv := hv.1 w4
          refine a_iconst (v := 0) eX7_isKind_14 (by decide) ?_
          refine a_iret eX7_isKind_15 rfl rfl (ret_i ?_)
          refine a_if_ne (tgt := 18) eX7_turns_12 (by decide) (fun h => absurd h (by decide)) (fun _ => ?_)
          refine a_ldc eX7_turns_15 kc_X7_73 ?_
          exact a_iret eX7_turns_17 rfl rfl hv
        · replace hv := hv.2 w4
          refine a_iconst (v := 1) eX7_isKind_10 (by decide) ?_
          refine a_goto (tgt := 15) eX7_isKind_11 (by decide) ?_
          refine a_iret eX7_isKind_15 rfl rfl (ret_i ?_)
          refine a_if_ne (tgt := 18) eX7_turns_12 (by decide) (fun _ => ?_) (fun h => absurd h (by decide))
          refine a_aload_n eX7_turns_18 rfl ?_
          refine gX7_2 eX7_turns_19 fl_X7_28 ?_
          refine gX1_2 ld30 eX7_turns_22 fl_X7_85 ?_
          refine a_iload_n eX7_turns_25 rfl ?_
          obtain ⟨h5, hv⟩ := hv
          refine a_iald eX7_turns_26 (ld_8 ld30 1 (by decide)) (ld_in ld30 1 (by decide)) h5 ?_
          refine a_istore_n (vs' := [some (.ref (G.1 0)), some (.int v1), some (.int v2), some (.int (M 31 (ix v1)))]) eX7_turns_27 rfl (Nat.le_of_ble_eq_true rfl) rfl ?_
          refine a_aload_n eX7_turns_28 rfl ?_
          refine gX7_2 eX7_turns_29 fl_X7_28 ?_
          refine gX1_2 ld30 eX7_turns_32 fl_X7_85 ?_
          refine a_iload_n eX7_turns_35 rfl ?_
          refine a_iload_n eX7_turns_36 rfl ?_
          obtain ⟨h6, hv⟩ := hv
          refine a_iast eX7_turns_37 (ld_8 ld30 1 (by decide)) (ld_in ld30 1 (by decide)) h6 ?_
          refine a_iload_n eX7_turns_38 rfl ?_
          exact a_iret eX7_turns_39 rfl rfl hv
theorem tX7_set {l : Launch} {G : GT} {d : Nat} {M : Mem} {R : Option Value → Mem → Prop} {v1 : Int32} {v2 : Int32} {v3 : Int32} (hv : (v1 < 0 → R (some (.int (-1000000001))) M) ∧ (¬ (v1 < 0) → ((M 30 1) ≤ v1 → R (some (.int (-1000000001))) M) ∧ (¬ ((M 30 1) ≤ v1) → (v2 = 1 → (v3 < 0 → (v2 = 2 → (v3 < 0 → R (some (.int (-1000000001))) M) ∧ (¬ (v3 < 0) → (99 < v3 → R (some (.int (-1000000001))) M) ∧ (¬ (99 < v3) → vp_in v1 8 ∧ vp_in v1 8 ∧ R (some (.int (M 33 (ix v1)))) (um M 33 (ix v1) v3)))) ∧ (¬ (v2 = 2) → R (some (.int (-1000000001))) M)) ∧ (¬ (v3 < 0) → (10 ≤ v3 → (v2 = 2 → (v3 < 0 → R (some (.int (-1000000001))) M) ∧ (¬ (v3 < 0) → (99 < v3 → R (some (.int (-1000000001))) M) ∧ (¬ (99 < v3) → vp_in v1 8 ∧ vp_in v1 8 ∧ R (some (.int (M 33 (ix v1)))) (um M 33 (ix v1) v3)))) ∧ (¬ (v2 = 2) → R (some (.int (-1000000001))) M)) ∧ (¬ (10 ≤ v3) → vp_in v1 8 ∧ vp_in v1 8 ∧ R (some (.int (M 32 (ix v1)))) (um M 32 (ix v1) v3)))) ∧ (¬ (v2 = 1) → (v2 = 2 → (v3 < 0 → R (some (.int (-1000000001))) M) ∧ (¬ (v3 < 0) → (99 < v3 → R (some (.int (-1000000001))) M) ∧ (¬ (99 < v3) → vp_in v1 8 ∧ vp_in v1 8 ∧ R (some (.int (M 33 (ix v1)))) (um M 33 (ix v1) v3)))) ∧ (¬ (v2 = 2) → R (some (.int (-1000000001))) M))))) : Tr l G (d + 4) mX7_set [.ref (G.1 0), .int v1, .int v2, .int v3] M R := by
  refine Tr.of rfl (Nat.le_of_ble_eq_true rfl) (vs := [some (.ref (G.1 0)), some (.int v1), some (.int v2), some (.int v3), none]) rfl ?_
  refine a_aload_n eX7_set_0 rfl ?_
  refine a_iload_n eX7_set_1 rfl ?_
  refine qX7_82 rfl eX7_set_2 (Nat.le_of_ble_eq_true rfl) ?_
  refine Tr.of rfl (Nat.le_of_ble_eq_true rfl) (vs := [some (.ref (G.1 0)), some (.int v1)]) rfl ?_
  refine a_iload_n eX7_isOne_0 rfl ?_
  refine a_if_lt (tgt := 19) eX7_isOne_1 (by decide) (fun w1 => ?_) (fun w1 => ?_)
  · replace hv := hv.1 w1
    refine a_iconst (v := 0) eX7_isOne_19 (by decide) ?_
    refine a_iret eX7_isOne_20 rfl rfl (ret_i ?_)
    refine a_if_ne (tgt := 11) eX7_set_5 (by decide) (fun h => absurd h (by decide)) (fun _ => ?_)
    refine a_ldc eX7_set_8 kc_X7_73 ?_
    exact a_iret eX7_set_10 rfl rfl hv
  · replace hv := hv.2 w1
    refine a_iload_n eX7_isOne_4 rfl ?_
    refine a_aload_n eX7_isOne_5 rfl ?_
    refine gX7_2 eX7_isOne_6 fl_X7_28 ?_
    refine gX1_1 ld30 eX7_isOne_9 fl_X7_148 ?_
    refine a_icmp_ge (tgt := 19) eX7_isOne_12 (by decide) (fun w2 => ?_) (fun w2 => ?_)
    · replace hv := hv.1 w2
      refine a_iconst (v := 0) eX7_isOne_19 (by decide) ?_
      refine a_iret eX7_isOne_20 rfl rfl (ret_i ?_)
      refine a_if_ne (tgt := 11) eX7_set_5 (by decide) (fun h => absurd h (by decide)) (fun _ => ?_)
      refine a_ldc eX7_set_8 kc_X7_73 ?_
      exact a_iret eX7_set_10 rfl rfl hv
    · replace hv := hv.2 w2
      refine a_iconst (v := 1) eX7_isOne_15 (by decide) ?_
      refine a_goto (tgt := 20) eX7_isOne_16 (by decide) ?_
      refine a_iret eX7_isOne_20 rfl rfl (ret_i ?_)
      refine a_if_ne (tgt := 11) eX7_set_5 (by decide) (fun _ => ?_) (fun h => absurd h (by decide))
      refine a_iload_n eX7_set_11 rfl ?_
      refine a_iconst (v := 1) eX7_set_12 (by decide) ?_
      refine a_icmp_ne (tgt := 47) eX7_set_13 (by decide) (fun w3 => ?_) (fun w3 => ?_)
      · replace hv := hv.2 w3
        refine a_iload_n eX7_set_47 rfl ?_
        refine a_iconst (v := 2) eX7_set_48 (by decide) ?_
        refine a_icmp_ne (tgt := 86) eX7_set_49 (by decide) (fun w4 => ?_) (fun w4 => ?_)
        · replace hv := hv.2 w4
          refine a_ldc eX7_set_86 kc_X7_73 ?_
          exact a_iret eX7_set_88 rfl rfl hv
        · replace hv := hv.1 w4
          refine a_iload_n eX7_set_52 rfl ?_
          refine a_if_lt (tgt := 86) eX7_set_53 (by decide) (fun w5 => ?_) (fun w5 => ?_)
          · replace hv := hv.1 w5
            refine a_ldc eX7_set_86 kc_X7_73 ?_
            exact a_iret eX7_set_88 rfl rfl hv
          · replace hv := hv.2 w5
            refine a_iload_n eX7_set_56 rfl ?_
            refine a_bipush (v := 99) eX7_set_57 (by decide) ?_
            refine a_icmp_gt (tgt := 86) eX7_set_59 (by decide) (fun w6 => ?_) (fun w6 => ?_)
            · replace hv := hv.1 w6
              refine a_ldc eX7_set_86 kc_X7_73 ?_
              exact a_iret eX7_set_88 rfl rfl hv
            · replace hv := hv.2 w6
              refine a_aload_n eX7_set_62 rfl ?_
              refine gX7_2 eX7_set_63 fl_X7_28 ?_
              refine gX1_4 ld30 eX7_set_66 fl_X7_91 ?_
              refine a_iload_n eX7_set_69 rfl ?_
              obtain ⟨h7, hv⟩ := hv
              refine a_iald eX7_set_70 (ld_8 ld30 3 (by decide)) (ld_in ld30 3 (by decide)) h7 ?_
              refine a_istore (vs' := [some (.ref (G.1 0)), some (.int v1), some (.int v2), some (.int v3), some (.int (M 33 (ix v1)))]) eX7_set_71 rfl (Nat.le_of_ble_eq_true rfl) rfl ?_
              refine a_aload_n eX7_set_73 rfl ?_
              refine gX7_2 eX7_set_74 fl_X7_28 ?_
              refine gX1_4 ld30 eX7_set_77 fl_X7_91 ?_
              refine a_iload_n eX7_set_80 rfl ?_
              refine a_iload_n eX7_set_81 rfl ?_
              obtain ⟨h8, hv⟩ := hv
              refine a_iast eX7_set_82 (ld_8 ld30 3 (by decide)) (ld_in ld30 3 (by decide)) h8 ?_
              refine a_iload eX7_set_83 rfl ?_
              exact a_iret eX7_set_85 rfl rfl hv
      · replace hv := hv.1 w3
        refine a_iload_n eX7_set_16 rfl ?_
        refine qX7_70 rfl eX7_set_17 (Nat.le_of_ble_eq_true rfl) ?_
        refine Tr.of rfl (Nat.le_of_ble_eq_true rfl) (vs := [some (.int v3)]) rfl ?_
        refine a_iload_n eX7_isPlace_0 rfl ?_
        refine a_if_lt (tgt := 14) eX7_isPlace_1 (by decide) (fun w9 => ?_) (fun w9 => ?_)
        · replace hv := hv.1 w9
          refine a_iconst (v := 0) eX7_isPlace_14 (by decide) ?_
          refine a_iret eX7_isPlace_15 rfl rfl (ret_i ?_)
          refine a_if_eq (tgt := 47) eX7_set_20 (by decide) (fun _ => ?_) (fun h => absurd h (by decide))
          refine a_iload_n eX7_set_47 rfl ?_
          refine a_iconst (v := 2) eX7_set_48 (by decide) ?_
          refine a_icmp_ne (tgt := 86) eX7_set_49 (by decide) (fun w10 => ?_) (fun w10 => ?_)
          · replace hv := hv.2 w10
            refine a_ldc eX7_set_86 kc_X7_73 ?_
            exact a_iret eX7_set_88 rfl rfl hv
          · replace hv := hv.1 w10
            refine a_iload_n eX7_set_52 rfl ?_
            refine a_if_lt (tgt := 86) eX7_set_53 (by decide) (fun w11 => ?_) (fun w11 => ?_)
            · replace hv := hv.1 w11
              refine a_ldc eX7_set_86 kc_X7_73 ?_
              exact a_iret eX7_set_88 rfl rfl hv
            · replace hv := hv.2 w11
              refine a_iload_n eX7_set_56 rfl ?_
              refine a_bipush (v := 99) eX7_set_57 (by decide) ?_
              refine a_icmp_gt (tgt := 86) eX7_set_59 (by decide) (fun w12 => ?_) (fun w12 => ?_)
              · replace hv := hv.1 w12
                refine a_ldc eX7_set_86 kc_X7_73 ?_
                exact a_iret eX7_set_88 rfl rfl hv
              · replace hv := hv.2 w12
                refine a_aload_n eX7_set_62 rfl ?_
                refine gX7_2 eX7_set_63 fl_X7_28 ?_
                refine gX1_4 ld30 eX7_set_66 fl_X7_91 ?_
                refine a_iload_n eX7_set_69 rfl ?_
                obtain ⟨h13, hv⟩ := hv
                refine a_iald eX7_set_70 (ld_8 ld30 3 (by decide)) (ld_in ld30 3 (by decide)) h13 ?_
                refine a_istore (vs' := [some (.ref (G.1 0)), some (.int v1), some (.int v2), some (.int v3), some (.int (M 33 (ix v1)))]) eX7_set_71 rfl (Nat.le_of_ble_eq_true rfl) rfl ?_
                refine a_aload_n eX7_set_73 rfl ?_
                refine gX7_2 eX7_set_74 fl_X7_28 ?_
                refine gX1_4 ld30 eX7_set_77 fl_X7_91 ?_
                refine a_iload_n eX7_set_80 rfl ?_
                refine a_iload_n eX7_set_81 rfl ?_
                obtain ⟨h14, hv⟩ := hv
                refine a_iast eX7_set_82 (ld_8 ld30 3 (by decide)) (ld_in ld30 3 (by decide)) h14 ?_
                refine a_iload eX7_set_83 rfl ?_
                exact a_iret eX7_set_85 rfl rfl hv
        · replace hv := hv.2 w9
          refine a_iload_n eX7_isPlace_4 rfl ?_
          refine a_bipush (v := 10) eX7_isPlace_5 (by decide) ?_
          refine a_icmp_ge (tgt := 14) eX7_isPlace_7 (by decide) (fun w15 => ?_) (fun w15 => ?_)
          · replace hv := hv.1 w15
            refine a_iconst (v := 0) eX7_isPlace_14 (by decide) ?_
            refine a_iret eX7_isPlace_15 rfl rfl (ret_i ?_)
            refine a_if_eq (tgt := 47) eX7_set_20 (by decide) (fun _ => ?_) (fun h => absurd h (by decide))
            refine a_iload_n eX7_set_47 rfl ?_
            refine a_iconst (v := 2) eX7_set_48 (by decide) ?_
            refine a_icmp_ne (tgt := 86) eX7_set_49 (by decide) (fun w16 => ?_) (fun w16 => ?_)
            · replace hv := hv.2 w16
              refine a_ldc eX7_set_86 kc_X7_73 ?_
              exact a_iret eX7_set_88 rfl rfl hv
            · replace hv := hv.1 w16
              refine a_iload_n eX7_set_52 rfl ?_
              refine a_if_lt (tgt := 86) eX7_set_53 (by decide) (fun w17 => ?_) (fun w17 => ?_)
              · replace hv := hv.1 w17
                refine a_ldc eX7_set_86 kc_X7_73 ?_
                exact a_iret eX7_set_88 rfl rfl hv
              · replace hv := hv.2 w17
                refine a_iload_n eX7_set_56 rfl ?_
                refine a_bipush (v := 99) eX7_set_57 (by decide) ?_
                refine a_icmp_gt (tgt := 86) eX7_set_59 (by decide) (fun w18 => ?_) (fun w18 => ?_)
                · replace hv := hv.1 w18
                  refine a_ldc eX7_set_86 kc_X7_73 ?_
                  exact a_iret eX7_set_88 rfl rfl hv
                · replace hv := hv.2 w18
                  refine a_aload_n eX7_set_62 rfl ?_
                  refine gX7_2 eX7_set_63 fl_X7_28 ?_
                  refine gX1_4 ld30 eX7_set_66 fl_X7_91 ?_
                  refine a_iload_n eX7_set_69 rfl ?_
                  obtain ⟨h19, hv⟩ := hv
                  refine a_iald eX7_set_70 (ld_8 ld30 3 (by decide)) (ld_in ld30 3 (by decide)) h19 ?_
                  refine a_istore (vs' := [some (.ref (G.1 0)), some (.int v1), some (.int v2), some (.int v3), some (.int (M 33 (ix v1)))]) eX7_set_71 rfl (Nat.le_of_ble_eq_true rfl) rfl ?_
                  refine a_aload_n eX7_set_73 rfl ?_
                  refine gX7_2 eX7_set_74 fl_X7_28 ?_
                  refine gX1_4 ld30 eX7_set_77 fl_X7_91 ?_
                  refine a_iload_n eX7_set_80 rfl ?_
                  refine a_iload_n eX7_set_81 rfl ?_
                  obtain ⟨h20, hv⟩ := hv
                  refine a_iast eX7_set_82 (ld_8 ld30 3 (by decide)) (ld_in ld30 3 (by decide)) h20 ?_
                  refine a_iload eX7_set_83 rfl ?_
                  exact a_iret eX7_set_85 rfl rfl hv
          · replace hv := hv.2 w15
            refine a_iconst (v := 1) eX7_isPlace_10 (by decide) ?_
            refine a_goto (tgt := 15) eX7_isPlace_11 (by decide) ?_
            refine a_iret eX7_isPlace_15 rfl rfl (ret_i ?_)
            refine a_if_eq (tgt := 47) eX7_set_20 (by decide) (fun h => absurd h (by decide)) (fun _ => ?_)
            refine a_aload_n eX7_set_23 rfl ?_
            refine gX7_2 eX7_set_24 fl_X7_28 ?_
            refine gX1_3 ld30 eX7_set_27 fl_X7_88 ?_
            refine a_iload_n eX7_set_30 rfl ?_
            obtain ⟨h21, hv⟩ := hv
            refine a_iald eX7_set_31 (ld_8 ld30 2 (by decide)) (ld_in ld30 2 (by decide)) h21 ?_
            refine a_istore (vs' := [some (.ref (G.1 0)), some (.int v1), some (.int v2), some (.int v3), some (.int (M 32 (ix v1)))]) eX7_set_32 rfl (Nat.le_of_ble_eq_true rfl) rfl ?_
            refine a_aload_n eX7_set_34 rfl ?_
            refine gX7_2 eX7_set_35 fl_X7_28 ?_
            refine gX1_3 ld30 eX7_set_38 fl_X7_88 ?_
            refine a_iload_n eX7_set_41 rfl ?_
            refine a_iload_n eX7_set_42 rfl ?_
            obtain ⟨h22, hv⟩ := hv
            refine a_iast eX7_set_43 (ld_8 ld30 2 (by decide)) (ld_in ld30 2 (by decide)) h22 ?_
            refine a_iload eX7_set_44 rfl ?_
            exact a_iret eX7_set_46 rfl rfl hv
theorem tX7_ink {l : Launch} {G : GT} {d : Nat} {M : Mem} {R : Option Value → Mem → Prop} {v1 : Int32} {v2 : Int32} (hv : (v1 < 0 → R (some (.int (-1000000001))) M) ∧ (¬ (v1 < 0) → ((M 30 1) ≤ v1 → R (some (.int (-1000000001))) M) ∧ (¬ ((M 30 1) ≤ v1) → (v2 < 0 → R (some (.int (-1000000001))) M) ∧ (¬ (v2 < 0) → ((M 30 6) ≤ v2 → R (some (.int (-1000000001))) M) ∧ (¬ ((M 30 6) ≤ v2) → vp_in v1 8 ∧ ((((M 34 (ix v1)) >>> (v2 &&& 31)) &&& 1) = 0 → vp_in v1 8 ∧ vp_in v1 8 ∧ ∀ M9 : Mem, M9 = um M 34 (ix v1) ((M 34 (ix v1)) ||| ((1 : Int32) <<< (v2 &&& 31))) → vp_in v1 8 ∧ Tr l G (d + 3) mJ6_bitCount_0f7a4 [.int (M9 34 (ix v1))] M9 (kI fun q M' => At l G (d + 4) mX7_ink 65 [none, none, none] [.int q] M' R)) ∧ (¬ ((((M 34 (ix v1)) >>> (v2 &&& 31)) &&& 1) = 0) → R (some (.int (-1000000002))) M)))))) : Tr l G (d + 4) mX7_ink [.ref (G.1 0), .int v1, .int v2] M R := by
  refine Tr.of rfl (Nat.le_of_ble_eq_true rfl) (vs := [some (.ref (G.1 0)), some (.int v1), some (.int v2)]) rfl ?_
  refine a_aload_n eX7_ink_0 rfl ?_
  refine a_iload_n eX7_ink_1 rfl ?_
  refine qX7_82 rfl eX7_ink_2 (Nat.le_of_ble_eq_true rfl) ?_
  refine Tr.of rfl (Nat.le_of_ble_eq_true rfl) (vs := [some (.ref (G.1 0)), some (.int v1)]) rfl ?_
  refine a_iload_n eX7_isOne_0 rfl ?_
  refine a_if_lt (tgt := 19) eX7_isOne_1 (by decide) (fun w1 => ?_) (fun w1 => ?_)
  · replace hv := hv.1 w1
    refine a_iconst (v := 0) eX7_isOne_19 (by decide) ?_
    refine a_iret eX7_isOne_20 rfl rfl (ret_i ?_)
    refine a_if_eq (tgt := 16) eX7_ink_5 (by decide) (fun _ => ?_) (fun h => absurd h (by decide))
    refine a_ldc eX7_ink_16 kc_X7_73 ?_
    exact a_iret eX7_ink_18 rfl rfl hv
  · replace hv := hv.2 w1
    refine a_iload_n eX7_isOne_4 rfl ?_
    refine a_aload_n eX7_isOne_5 rfl ?_
    refine gX7_2 eX7_isOne_6 fl_X7_28 ?_
    refine gX1_1 ld30 eX7_isOne_9 fl_X7_148 ?_
    refine a_icmp_ge (tgt := 19) eX7_isOne_12 (by decide) (fun w2 => ?_) (fun w2 => ?_)
    · replace hv := hv.1 w2
      refine a_iconst (v := 0) eX7_isOne_19 (by decide) ?_
      refine a_iret eX7_isOne_20 rfl rfl (ret_i ?_)
      refine a_if_eq (tgt := 16) eX7_ink_5 (by decide) (fun _ => ?_) (fun h => absurd h (by decide))
      refine a_ldc eX7_ink_16 kc_X7_73 ?_
      exact a_iret eX7_ink_18 rfl rfl hv
    · replace hv := hv.2 w2
      refine a_iconst (v := 1) eX7_isOne_15 (by decide) ?_
      refine a_goto (tgt := 20) eX7_isOne_16 (by decide) ?_
      refine a_iret eX7_isOne_20 rfl rfl (ret_i ?_)
      refine a_if_eq (tgt := 16) eX7_ink_5 (by decide) (fun h => absurd h (by decide)) (fun _ => ?_)
      refine a_aload_n eX7_ink_8 rfl ?_
      refine a_iload_n eX7_ink_9 rfl ?_
      refine qX7_114 rfl eX7_ink_10 (Nat.le_of_ble_eq_true rfl) ?_
      refine Tr.of rfl (Nat.le_of_ble_eq_true rfl) (vs := [some (.ref (G.1 0)), some (.int v2)]) rfl ?_
      refine a_iload_n eX7_isWay_0 rfl ?_
      refine a_if_lt (tgt := 19) eX7_isWay_1 (by decide) (fun w3 => ?_) (fun w3 => ?_)
      · replace hv := hv.1 w3
        refine a_iconst (v := 0) eX7_isWay_19 (by decide) ?_
        refine a_iret eX7_isWay_20 rfl rfl (ret_i ?_)
        refine a_if_ne (tgt := 19) eX7_ink_13 (by decide) (fun h => absurd h (by decide)) (fun _ => ?_)
        refine a_ldc eX7_ink_16 kc_X7_73 ?_
        exact a_iret eX7_ink_18 rfl rfl hv
      · replace hv := hv.2 w3
        refine a_iload_n eX7_isWay_4 rfl ?_
        refine a_aload_n eX7_isWay_5 rfl ?_
        refine gX7_2 eX7_isWay_6 fl_X7_28 ?_
        refine gX1_6 ld30 eX7_isWay_9 fl_X7_215 ?_
        refine a_icmp_ge (tgt := 19) eX7_isWay_12 (by decide) (fun w4 => ?_) (fun w4 => ?_)
        · replace hv := hv.1 w4
          refine a_iconst (v := 0) eX7_isWay_19 (by decide) ?_
          refine a_iret eX7_isWay_20 rfl rfl (ret_i ?_)
          refine a_if_ne (tgt := 19) eX7_ink_13 (by decide) (fun h => absurd h (by decide)) (fun _ => ?_)
          refine a_ldc eX7_ink_16 kc_X7_73 ?_
          exact a_iret eX7_ink_18 rfl rfl hv
        · replace hv := hv.2 w4
          refine a_iconst (v := 1) eX7_isWay_15 (by decide) ?_
          refine a_goto (tgt := 20) eX7_isWay_16 (by decide) ?_
          refine a_iret eX7_isWay_20 rfl rfl (ret_i ?_)
          refine a_if_ne (tgt := 19) eX7_ink_13 (by decide) (fun _ => ?_) (fun h => absurd h (by decide))
          refine a_aload_n eX7_ink_19 rfl ?_
          refine gX7_2 eX7_ink_20 fl_X7_28 ?_
          refine gX1_5 ld30 eX7_ink_23 fl_X7_94 ?_
          refine a_iload_n eX7_ink_26 rfl ?_
          obtain ⟨h5, hv⟩ := hv
          refine a_iald eX7_ink_27 (ld_8 ld30 4 (by decide)) (ld_in ld30 4 (by decide)) h5 ?_
          refine a_iload_n eX7_ink_28 rfl ?_
          refine qX7_117 rfl eX7_ink_29 (Nat.le_of_ble_eq_true rfl) ?_
          refine Tr.of rfl (Nat.le_of_ble_eq_true rfl) (vs := [some (.int (M 34 (ix v1))), some (.int v2)]) rfl ?_
          refine a_iload_n eX7_has_0 rfl ?_
          refine a_iload_n eX7_has_1 rfl ?_
          refine a_ishr eX7_has_2 ?_
          refine a_iconst (v := 1) eX7_has_3 (by decide) ?_
          refine a_iand eX7_has_4 ?_
          refine a_if_eq (tgt := 12) eX7_has_5 (by decide) (fun w6 => ?_) (fun w6 => ?_)
          · replace hv := hv.1 w6
            refine a_iconst (v := 0) eX7_has_12 (by decide) ?_
            refine a_iret eX7_has_13 rfl rfl (ret_i ?_)
            refine a_if_eq (tgt := 38) eX7_ink_32 (by decide) (fun _ => ?_) (fun h => absurd h (by decide))
            refine a_aload_n eX7_ink_38 rfl ?_
            refine gX7_2 eX7_ink_39 fl_X7_28 ?_
            refine gX1_5 ld30 eX7_ink_42 fl_X7_94 ?_
            refine a_iload_n eX7_ink_45 rfl ?_
            refine a_dup2 eX7_ink_46 rfl rfl ?_
            obtain ⟨h7, hv⟩ := hv
            refine a_iald eX7_ink_47 (ld_8 ld30 4 (by decide)) (ld_in ld30 4 (by decide)) h7 ?_
            refine a_iconst (v := 1) eX7_ink_48 (by decide) ?_
            refine a_iload_n eX7_ink_49 rfl ?_
            refine a_ishl eX7_ink_50 ?_
            refine a_ior eX7_ink_51 ?_
            obtain ⟨h8, hv⟩ := hv
            refine a_iast eX7_ink_52 (ld_8 ld30 4 (by decide)) (ld_in ld30 4 (by decide)) h8 ?_
            refine a_nm (fun M9 eM9 => ?_)
            replace hv := hv M9 eM9
            refine a_aload_n eX7_ink_53 rfl ?_
            refine gX7_2 eX7_ink_54 fl_X7_28 ?_
            refine gX1_5 ld30 eX7_ink_57 fl_X7_94 ?_
            refine a_iload_n eX7_ink_60 rfl ?_
            obtain ⟨h10, hv⟩ := hv
            refine a_iald eX7_ink_61 (ld_8 ld30 4 (by decide)) (ld_in ld30 4 (by decide)) h10 ?_
            exact qX7_121 rfl eX7_ink_62 (Nat.le_of_ble_eq_true rfl) (tr_I [false, false, false] rfl rfl hv)
          · replace hv := hv.2 w6
            refine a_iconst (v := 1) eX7_has_8 (by decide) ?_
            refine a_goto (tgt := 13) eX7_has_9 (by decide) ?_
            refine a_iret eX7_has_13 rfl rfl (ret_i ?_)
            refine a_if_eq (tgt := 38) eX7_ink_32 (by decide) (fun h => absurd h (by decide)) (fun _ => ?_)
            refine a_ldc eX7_ink_35 kc_X7_120 ?_
            exact a_iret eX7_ink_37 rfl rfl hv
theorem bX7_ink_65 {l : Launch} {G : GT} {d : Nat} {M : Mem} {R : Option Value → Mem → Prop} {r : Int32} (hv : R (some (.int r)) M) : At l G (d + 4) mX7_ink 65 [none, none, none] [.int r] M R := by
  exact a_iret eX7_ink_65 rfl rfl hv
theorem tX7_scar {l : Launch} {G : GT} {d : Nat} {M : Mem} {R : Option Value → Mem → Prop} {v1 : Int32} {v2 : Int32} (hv : (v1 < 0 → R (some (.int (-1000000001))) M) ∧ (¬ (v1 < 0) → ((M 30 1) ≤ v1 → R (some (.int (-1000000001))) M) ∧ (¬ ((M 30 1) ≤ v1) → (v2 < 0 → R (some (.int (-1000000001))) M) ∧ (¬ (v2 < 0) → ((M 30 6) ≤ v2 → R (some (.int (-1000000001))) M) ∧ (¬ ((M 30 6) ≤ v2) → vp_in v1 8 ∧ ((((M 34 (ix v1)) >>> (v2 &&& 31)) &&& 1) = 0 → R (some (.int (-1000000002))) M) ∧ (¬ ((((M 34 (ix v1)) >>> (v2 &&& 31)) &&& 1) = 0) → vp_in v1 8 ∧ vp_in v1 8 ∧ ∀ M9 : Mem, M9 = um M 34 (ix v1) ((M 34 (ix v1)) &&& (((1 : Int32) <<< (v2 &&& 31)) ^^^ (-1))) → vp_in v1 8 ∧ Tr l G (d + 3) mJ6_bitCount_0f7a4 [.int (M9 34 (ix v1))] M9 (kI fun q M' => At l G (d + 4) mX7_scar 67 [none, none, none] [.int q] M' R))))))) : Tr l G (d + 4) mX7_scar [.ref (G.1 0), .int v1, .int v2] M R := by
  refine Tr.of rfl (Nat.le_of_ble_eq_true rfl) (vs := [some (.ref (G.1 0)), some (.int v1), some (.int v2)]) rfl ?_
  refine a_aload_n eX7_scar_0 rfl ?_
  refine a_iload_n eX7_scar_1 rfl ?_
  refine qX7_82 rfl eX7_scar_2 (Nat.le_of_ble_eq_true rfl) ?_
  refine Tr.of rfl (Nat.le_of_ble_eq_true rfl) (vs := [some (.ref (G.1 0)), some (.int v1)]) rfl ?_
  refine a_iload_n eX7_isOne_0 rfl ?_
  refine a_if_lt (tgt := 19) eX7_isOne_1 (by decide) (fun w1 => ?_) (fun w1 => ?_)
  · replace hv := hv.1 w1
    refine a_iconst (v := 0) eX7_isOne_19 (by decide) ?_
    refine a_iret eX7_isOne_20 rfl rfl (ret_i ?_)
    refine a_if_eq (tgt := 16) eX7_scar_5 (by decide) (fun _ => ?_) (fun h => absurd h (by decide))
    refine a_ldc eX7_scar_16 kc_X7_73 ?_
    exact a_iret eX7_scar_18 rfl rfl hv
  · replace hv := hv.2 w1
    refine a_iload_n eX7_isOne_4 rfl ?_
    refine a_aload_n eX7_isOne_5 rfl ?_
    refine gX7_2 eX7_isOne_6 fl_X7_28 ?_
    refine gX1_1 ld30 eX7_isOne_9 fl_X7_148 ?_
    refine a_icmp_ge (tgt := 19) eX7_isOne_12 (by decide) (fun w2 => ?_) (fun w2 => ?_)
    · replace hv := hv.1 w2
      refine a_iconst (v := 0) eX7_isOne_19 (by decide) ?_
      refine a_iret eX7_isOne_20 rfl rfl (ret_i ?_)
      refine a_if_eq (tgt := 16) eX7_scar_5 (by decide) (fun _ => ?_) (fun h => absurd h (by decide))
      refine a_ldc eX7_scar_16 kc_X7_73 ?_
      exact a_iret eX7_scar_18 rfl rfl hv
    · replace hv := hv.2 w2
      refine a_iconst (v := 1) eX7_isOne_15 (by decide) ?_
      refine a_goto (tgt := 20) eX7_isOne_16 (by decide) ?_
      refine a_iret eX7_isOne_20 rfl rfl (ret_i ?_)
      refine a_if_eq (tgt := 16) eX7_scar_5 (by decide) (fun h => absurd h (by decide)) (fun _ => ?_)
      refine a_aload_n eX7_scar_8 rfl ?_
      refine a_iload_n eX7_scar_9 rfl ?_
      refine qX7_114 rfl eX7_scar_10 (Nat.le_of_ble_eq_true rfl) ?_
      refine Tr.of rfl (Nat.le_of_ble_eq_true rfl) (vs := [some (.ref (G.1 0)), some (.int v2)]) rfl ?_
      refine a_iload_n eX7_isWay_0 rfl ?_
      refine a_if_lt (tgt := 19) eX7_isWay_1 (by decide) (fun w3 => ?_) (fun w3 => ?_)
      · replace hv := hv.1 w3
        refine a_iconst (v := 0) eX7_isWay_19 (by decide) ?_
        refine a_iret eX7_isWay_20 rfl rfl (ret_i ?_)
        refine a_if_ne (tgt := 19) eX7_scar_13 (by decide) (fun h => absurd h (by decide)) (fun _ => ?_)
        refine a_ldc eX7_scar_16 kc_X7_73 ?_
        exact a_iret eX7_scar_18 rfl rfl hv
      · replace hv := hv.2 w3
        refine a_iload_n eX7_isWay_4 rfl ?_
        refine a_aload_n eX7_isWay_5 rfl ?_
        refine gX7_2 eX7_isWay_6 fl_X7_28 ?_
        refine gX1_6 ld30 eX7_isWay_9 fl_X7_215 ?_
        refine a_icmp_ge (tgt := 19) eX7_isWay_12 (by decide) (fun w4 => ?_) (fun w4 => ?_)
        · replace hv := hv.1 w4
          refine a_iconst (v := 0) eX7_isWay_19 (by decide) ?_
          refine a_iret eX7_isWay_20 rfl rfl (ret_i ?_)
          refine a_if_ne (tgt := 19) eX7_scar_13 (by decide) (fun h => absurd h (by decide)) (fun _ => ?_)
          refine a_ldc eX7_scar_16 kc_X7_73 ?_
          exact a_iret eX7_scar_18 rfl rfl hv
        · replace hv := hv.2 w4
          refine a_iconst (v := 1) eX7_isWay_15 (by decide) ?_
          refine a_goto (tgt := 20) eX7_isWay_16 (by decide) ?_
          refine a_iret eX7_isWay_20 rfl rfl (ret_i ?_)
          refine a_if_ne (tgt := 19) eX7_scar_13 (by decide) (fun _ => ?_) (fun h => absurd h (by decide))
          refine a_aload_n eX7_scar_19 rfl ?_
          refine gX7_2 eX7_scar_20 fl_X7_28 ?_
          refine gX1_5 ld30 eX7_scar_23 fl_X7_94 ?_
          refine a_iload_n eX7_scar_26 rfl ?_
          obtain ⟨h5, hv⟩ := hv
          refine a_iald eX7_scar_27 (ld_8 ld30 4 (by decide)) (ld_in ld30 4 (by decide)) h5 ?_
          refine a_iload_n eX7_scar_28 rfl ?_
          refine qX7_117 rfl eX7_scar_29 (Nat.le_of_ble_eq_true rfl) ?_
          refine Tr.of rfl (Nat.le_of_ble_eq_true rfl) (vs := [some (.int (M 34 (ix v1))), some (.int v2)]) rfl ?_
          refine a_iload_n eX7_has_0 rfl ?_
          refine a_iload_n eX7_has_1 rfl ?_
          refine a_ishr eX7_has_2 ?_
          refine a_iconst (v := 1) eX7_has_3 (by decide) ?_
          refine a_iand eX7_has_4 ?_
          refine a_if_eq (tgt := 12) eX7_has_5 (by decide) (fun w6 => ?_) (fun w6 => ?_)
          · replace hv := hv.1 w6
            refine a_iconst (v := 0) eX7_has_12 (by decide) ?_
            refine a_iret eX7_has_13 rfl rfl (ret_i ?_)
            refine a_if_ne (tgt := 38) eX7_scar_32 (by decide) (fun h => absurd h (by decide)) (fun _ => ?_)
            refine a_ldc eX7_scar_35 kc_X7_120 ?_
            exact a_iret eX7_scar_37 rfl rfl hv
          · replace hv := hv.2 w6
            refine a_iconst (v := 1) eX7_has_8 (by decide) ?_
            refine a_goto (tgt := 13) eX7_has_9 (by decide) ?_
            refine a_iret eX7_has_13 rfl rfl (ret_i ?_)
            refine a_if_ne (tgt := 38) eX7_scar_32 (by decide) (fun _ => ?_) (fun h => absurd h (by decide))
            refine a_aload_n eX7_scar_38 rfl ?_
            refine gX7_2 eX7_scar_39 fl_X7_28 ?_
            refine gX1_5 ld30 eX7_scar_42 fl_X7_94 ?_
            refine a_iload_n eX7_scar_45 rfl ?_
            refine a_dup2 eX7_scar_46 rfl rfl ?_
            obtain ⟨h7, hv⟩ := hv
            refine a_iald eX7_scar_47 (ld_8 ld30 4 (by decide)) (ld_in ld30 4 (by decide)) h7 ?_
            refine a_iconst (v := 1) eX7_scar_48 (by decide) ?_
            refine a_iload_n eX7_scar_49 rfl ?_
            refine a_ishl eX7_scar_50 ?_
            refine a_iconst (v := (-1)) eX7_scar_51 (by decide) ?_
            refine a_ixor eX7_scar_52 ?_
            refine a_iand eX7_scar_53 ?_
            obtain ⟨h8, hv⟩ := hv
            refine a_iast eX7_scar_54 (ld_8 ld30 4 (by decide)) (ld_in ld30 4 (by decide)) h8 ?_
            refine a_nm (fun M9 eM9 => ?_)
            replace hv := hv M9 eM9
            refine a_aload_n eX7_scar_55 rfl ?_
            refine gX7_2 eX7_scar_56 fl_X7_28 ?_
            refine gX1_5 ld30 eX7_scar_59 fl_X7_94 ?_
            refine a_iload_n eX7_scar_62 rfl ?_
            obtain ⟨h10, hv⟩ := hv
            refine a_iald eX7_scar_63 (ld_8 ld30 4 (by decide)) (ld_in ld30 4 (by decide)) h10 ?_
            exact qX7_121 rfl eX7_scar_64 (Nat.le_of_ble_eq_true rfl) (tr_I [false, false, false] rfl rfl hv)
theorem bX7_scar_67 {l : Launch} {G : GT} {d : Nat} {M : Mem} {R : Option Value → Mem → Prop} {r : Int32} (hv : R (some (.int r)) M) : At l G (d + 4) mX7_scar 67 [none, none, none] [.int r] M R := by
  exact a_iret eX7_scar_67 rfl rfl hv
theorem tX7_about {l : Launch} {G : GT} {d : Nat} {M : Mem} {R : Option Value → Mem → Prop} {v1 : Int32} {v2 : Int32} (hv : (v1 < 0 → R (some (.int (-1000000001))) M) ∧ (¬ (v1 < 0) → ((M 30 6) ≤ v1 → R (some (.int (-1000000001))) M) ∧ (¬ ((M 30 6) ≤ v1) → (v2 = 0 → vp_in v1 14 ∧ R (some (.int (M 35 (ix v1)))) M) ∧ (v2 = 1 → vp_in v1 14 ∧ R (some (.int (M 36 (ix v1)))) M) ∧ (v2 = 2 → ((((M 30 10) >>> (v1 &&& 31)) &&& 1) = 0 → R (some (.int 0)) M) ∧ (¬ ((((M 30 10) >>> (v1 &&& 31)) &&& 1) = 0) → R (some (.int 1)) M)) ∧ (v2 = 3 → Tr l G (d + 3) mX1_bearersOf [.ref (G.1 30), .int v1] M (kI fun q M' => At l G (d + 4) mX7_about 92 [none, none, none] [.int q] M' R)) ∧ (¬ v2 = 0 → ¬ v2 = 1 → ¬ v2 = 2 → ¬ v2 = 3 → R (some (.int (-1000000001))) M)))) : Tr l G (d + 4) mX7_about [.ref (G.1 0), .int v1, .int v2] M R := by
  refine Tr.of rfl (Nat.le_of_ble_eq_true rfl) (vs := [some (.ref (G.1 0)), some (.int v1), some (.int v2)]) rfl ?_
  refine a_aload_n eX7_about_0 rfl ?_
  refine a_iload_n eX7_about_1 rfl ?_
  refine qX7_114 rfl eX7_about_2 (Nat.le_of_ble_eq_true rfl) ?_
  refine Tr.of rfl (Nat.le_of_ble_eq_true rfl) (vs := [some (.ref (G.1 0)), some (.int v1)]) rfl ?_
  refine a_iload_n eX7_isWay_0 rfl ?_
  refine a_if_lt (tgt := 19) eX7_isWay_1 (by decide) (fun w1 => ?_) (fun w1 => ?_)
  · replace hv := hv.1 w1
    refine a_iconst (v := 0) eX7_isWay_19 (by decide) ?_
    refine a_iret eX7_isWay_20 rfl rfl (ret_i ?_)
    refine a_if_ne (tgt := 11) eX7_about_5 (by decide) (fun h => absurd h (by decide)) (fun _ => ?_)
    refine a_ldc eX7_about_8 kc_X7_73 ?_
    exact a_iret eX7_about_10 rfl rfl hv
  · replace hv := hv.2 w1
    refine a_iload_n eX7_isWay_4 rfl ?_
    refine a_aload_n eX7_isWay_5 rfl ?_
    refine gX7_2 eX7_isWay_6 fl_X7_28 ?_
    refine gX1_6 ld30 eX7_isWay_9 fl_X7_215 ?_
    refine a_icmp_ge (tgt := 19) eX7_isWay_12 (by decide) (fun w2 => ?_) (fun w2 => ?_)
    · replace hv := hv.1 w2
      refine a_iconst (v := 0) eX7_isWay_19 (by decide) ?_
      refine a_iret eX7_isWay_20 rfl rfl (ret_i ?_)
      refine a_if_ne (tgt := 11) eX7_about_5 (by decide) (fun h => absurd h (by decide)) (fun _ => ?_)
      refine a_ldc eX7_about_8 kc_X7_73 ?_
      exact a_iret eX7_about_10 rfl rfl hv
    · replace hv := hv.2 w2
      refine a_iconst (v := 1) eX7_isWay_15 (by decide) ?_
      refine a_goto (tgt := 20) eX7_isWay_16 (by decide) ?_
      refine a_iret eX7_isWay_20 rfl rfl (ret_i ?_)
      refine a_if_ne (tgt := 11) eX7_about_5 (by decide) (fun _ => ?_) (fun h => absurd h (by decide))
      refine a_iload_n eX7_about_11 rfl ?_
      by_cases w4 : v2 = 0
      · refine a_tswIn 0 (tgt := 44) eX7_about_12 w4 (by decide) (by decide) rfl (by decide) ?_
        replace hv := hv.1 w4
        refine a_aload_n eX7_about_44 rfl ?_
        refine gX7_2 eX7_about_45 fl_X7_28 ?_
        refine gX1_7 ld30 eX7_about_48 fl_X7_126 ?_
        refine a_iload_n eX7_about_51 rfl ?_
        obtain ⟨h3, hv⟩ := hv
        refine a_iald eX7_about_52 (ld_5 ld30) (ld_in ld30 5 (by decide)) h3 ?_
        exact a_iret eX7_about_53 rfl rfl hv
      by_cases w6 : v2 = 1
      · refine a_tswIn 1 (tgt := 54) eX7_about_12 w6 (by decide) (by decide) rfl (by decide) ?_
        replace hv := hv.2.1 w6
        refine a_aload_n eX7_about_54 rfl ?_
        refine gX7_2 eX7_about_55 fl_X7_28 ?_
        refine gX1_8 ld30 eX7_about_58 fl_X7_129 ?_
        refine a_iload_n eX7_about_61 rfl ?_
        obtain ⟨h5, hv⟩ := hv
        refine a_iald eX7_about_62 (ld_6 ld30) (ld_in ld30 6 (by decide)) h5 ?_
        exact a_iret eX7_about_63 rfl rfl hv
      by_cases w8 : v2 = 2
      · refine a_tswIn 2 (tgt := 64) eX7_about_12 w8 (by decide) (by decide) rfl (by decide) ?_
        replace hv := hv.2.2.1 w8
        refine a_aload_n eX7_about_64 rfl ?_
        refine gX7_2 eX7_about_65 fl_X7_28 ?_
        refine gX1_10 ld30 eX7_about_68 fl_X7_132 ?_
        refine a_iload_n eX7_about_71 rfl ?_
        refine qX7_117 rfl eX7_about_72 (Nat.le_of_ble_eq_true rfl) ?_
        refine Tr.of rfl (Nat.le_of_ble_eq_true rfl) (vs := [some (.int (M 30 10)), some (.int v1)]) rfl ?_
        refine a_iload_n eX7_has_0 rfl ?_
        refine a_iload_n eX7_has_1 rfl ?_
        refine a_ishr eX7_has_2 ?_
        refine a_iconst (v := 1) eX7_has_3 (by decide) ?_
        refine a_iand eX7_has_4 ?_
        refine a_if_eq (tgt := 12) eX7_has_5 (by decide) (fun w7 => ?_) (fun w7 => ?_)
        · replace hv := hv.1 w7
          refine a_iconst (v := 0) eX7_has_12 (by decide) ?_
          refine a_iret eX7_has_13 rfl rfl (ret_i ?_)
          refine a_if_eq (tgt := 82) eX7_about_75 (by decide) (fun _ => ?_) (fun h => absurd h (by decide))
          refine a_iconst (v := 0) eX7_about_82 (by decide) ?_
          exact a_iret eX7_about_83 rfl rfl hv
        · replace hv := hv.2 w7
          refine a_iconst (v := 1) eX7_has_8 (by decide) ?_
          refine a_goto (tgt := 13) eX7_has_9 (by decide) ?_
          refine a_iret eX7_has_13 rfl rfl (ret_i ?_)
          refine a_if_eq (tgt := 82) eX7_about_75 (by decide) (fun h => absurd h (by decide)) (fun _ => ?_)
          refine a_iconst (v := 1) eX7_about_78 (by decide) ?_
          refine a_goto (tgt := 83) eX7_about_79 (by decide) ?_
          exact a_iret eX7_about_83 rfl rfl hv
      by_cases w9 : v2 = 3
      · refine a_tswIn 3 (tgt := 84) eX7_about_12 w9 (by decide) (by decide) rfl (by decide) ?_
        replace hv := hv.2.2.2.1 w9
        refine a_aload_n eX7_about_84 rfl ?_
        refine gX7_2 eX7_about_85 fl_X7_28 ?_
        refine a_iload_n eX7_about_88 rfl ?_
        exact qX7_136 ld30 rfl eX7_about_89 (Nat.le_of_ble_eq_true rfl) (tr_I [false, false, false] rfl rfl hv)
      refine a_tswOut (tgt := 93) eX7_about_12 (by have zw4 := lv_neT (a := 0) w4 (by decide); have zw6 := lv_neT (a := 1) w6 (by decide); have zw8 := lv_neT (a := 2) w8 (by decide); have zw9 := lv_neT (a := 3) w9 (by decide); omega) (by decide) ?_
      replace hv := hv.2.2.2.2 w4 w6 w8 w9
      refine a_ldc eX7_about_93 kc_X7_73 ?_
      exact a_iret eX7_about_95 rfl rfl hv
theorem bX7_about_92 {l : Launch} {G : GT} {d : Nat} {M : Mem} {R : Option Value → Mem → Prop} {r : Int32} (hv : R (some (.int r)) M) : At l G (d + 4) mX7_about 92 [none, none, none] [.int r] M R := by
  exact a_iret eX7_about_92 rfl rfl hv
theorem tX7_slides {l : Launch} {G : GT} {d : Nat} {M : Mem} {R : Option Value → Mem → Prop} {v1 : Int32} (hv : (v1 < 0 → R (some (.int (-1000000001))) M) ∧ (¬ (v1 < 0) → ((M 30 6) ≤ v1 → R (some (.int (-1000000001))) M) ∧ (¬ ((M 30 6) ≤ v1) → ((((M 30 10) >>> (v1 &&& 31)) &&& 1) = 0 → R (some (.int 0)) (um M 30 10 ((M 30 10) ^^^ ((1 : Int32) <<< (v1 &&& 31))))) ∧ (¬ ((((M 30 10) >>> (v1 &&& 31)) &&& 1) = 0) → R (some (.int 1)) (um M 30 10 ((M 30 10) ^^^ ((1 : Int32) <<< (v1 &&& 31)))))))) : Tr l G (d + 4) mX7_slides [.ref (G.1 0), .int v1] M R := by
  refine Tr.of rfl (Nat.le_of_ble_eq_true rfl) (vs := [some (.ref (G.1 0)), some (.int v1), none]) rfl ?_
  refine a_aload_n eX7_slides_0 rfl ?_
  refine a_iload_n eX7_slides_1 rfl ?_
  refine qX7_114 rfl eX7_slides_2 (Nat.le_of_ble_eq_true rfl) ?_
  refine Tr.of rfl (Nat.le_of_ble_eq_true rfl) (vs := [some (.ref (G.1 0)), some (.int v1)]) rfl ?_
  refine a_iload_n eX7_isWay_0 rfl ?_
  refine a_if_lt (tgt := 19) eX7_isWay_1 (by decide) (fun w1 => ?_) (fun w1 => ?_)
  · replace hv := hv.1 w1
    refine a_iconst (v := 0) eX7_isWay_19 (by decide) ?_
    refine a_iret eX7_isWay_20 rfl rfl (ret_i ?_)
    refine a_if_ne (tgt := 11) eX7_slides_5 (by decide) (fun h => absurd h (by decide)) (fun _ => ?_)
    refine a_ldc eX7_slides_8 kc_X7_73 ?_
    exact a_iret eX7_slides_10 rfl rfl hv
  · replace hv := hv.2 w1
    refine a_iload_n eX7_isWay_4 rfl ?_
    refine a_aload_n eX7_isWay_5 rfl ?_
    refine gX7_2 eX7_isWay_6 fl_X7_28 ?_
    refine gX1_6 ld30 eX7_isWay_9 fl_X7_215 ?_
    refine a_icmp_ge (tgt := 19) eX7_isWay_12 (by decide) (fun w2 => ?_) (fun w2 => ?_)
    · replace hv := hv.1 w2
      refine a_iconst (v := 0) eX7_isWay_19 (by decide) ?_
      refine a_iret eX7_isWay_20 rfl rfl (ret_i ?_)
      refine a_if_ne (tgt := 11) eX7_slides_5 (by decide) (fun h => absurd h (by decide)) (fun _ => ?_)
      refine a_ldc eX7_slides_8 kc_X7_73 ?_
      exact a_iret eX7_slides_10 rfl rfl hv
    · replace hv := hv.2 w2
      refine a_iconst (v := 1) eX7_isWay_15 (by decide) ?_
      refine a_goto (tgt := 20) eX7_isWay_16 (by decide) ?_
      refine a_iret eX7_isWay_20 rfl rfl (ret_i ?_)
      refine a_if_ne (tgt := 11) eX7_slides_5 (by decide) (fun _ => ?_) (fun h => absurd h (by decide))
      refine a_aload_n eX7_slides_11 rfl ?_
      refine gX7_2 eX7_slides_12 fl_X7_28 ?_
      refine gX1_10 ld30 eX7_slides_15 fl_X7_132 ?_
      refine a_iload_n eX7_slides_18 rfl ?_
      refine qX7_117 rfl eX7_slides_19 (Nat.le_of_ble_eq_true rfl) ?_
      refine Tr.of rfl (Nat.le_of_ble_eq_true rfl) (vs := [some (.int (M 30 10)), some (.int v1)]) rfl ?_
      refine a_iload_n eX7_has_0 rfl ?_
      refine a_iload_n eX7_has_1 rfl ?_
      refine a_ishr eX7_has_2 ?_
      refine a_iconst (v := 1) eX7_has_3 (by decide) ?_
      refine a_iand eX7_has_4 ?_
      refine a_if_eq (tgt := 12) eX7_has_5 (by decide) (fun w3 => ?_) (fun w3 => ?_)
      · replace hv := hv.1 w3
        refine a_iconst (v := 0) eX7_has_12 (by decide) ?_
        refine a_iret eX7_has_13 rfl rfl (ret_i ?_)
        refine a_if_eq (tgt := 29) eX7_slides_22 (by decide) (fun _ => ?_) (fun h => absurd h (by decide))
        refine a_iconst (v := 0) eX7_slides_29 (by decide) ?_
        refine a_istore_n (vs' := [some (.ref (G.1 0)), some (.int v1), some (.int 0)]) eX7_slides_30 rfl (Nat.le_of_ble_eq_true rfl) rfl ?_
        refine a_aload_n eX7_slides_31 rfl ?_
        refine gX7_2 eX7_slides_32 fl_X7_28 ?_
        refine a_dup eX7_slides_35 rfl ?_
        refine gX1_10 ld30 eX7_slides_36 fl_X7_132 ?_
        refine a_iconst (v := 1) eX7_slides_39 (by decide) ?_
        refine a_iload_n eX7_slides_40 rfl ?_
        refine a_ishl eX7_slides_41 ?_
        refine a_ixor eX7_slides_42 ?_
        refine pX1_10 ld30 eX7_slides_43 fl_X7_132 ?_
        refine a_iload_n eX7_slides_46 rfl ?_
        exact a_iret eX7_slides_47 rfl rfl hv
      · replace hv := hv.2 w3
        refine a_iconst (v := 1) eX7_has_8 (by decide) ?_
        refine a_goto (tgt := 13) eX7_has_9 (by decide) ?_
        refine a_iret eX7_has_13 rfl rfl (ret_i ?_)
        refine a_if_eq (tgt := 29) eX7_slides_22 (by decide) (fun h => absurd h (by decide)) (fun _ => ?_)
        refine a_iconst (v := 1) eX7_slides_25 (by decide) ?_
        refine a_goto (tgt := 30) eX7_slides_26 (by decide) ?_
        refine a_istore_n (vs' := [some (.ref (G.1 0)), some (.int v1), some (.int 1)]) eX7_slides_30 rfl (Nat.le_of_ble_eq_true rfl) rfl ?_
        refine a_aload_n eX7_slides_31 rfl ?_
        refine gX7_2 eX7_slides_32 fl_X7_28 ?_
        refine a_dup eX7_slides_35 rfl ?_
        refine gX1_10 ld30 eX7_slides_36 fl_X7_132 ?_
        refine a_iconst (v := 1) eX7_slides_39 (by decide) ?_
        refine a_iload_n eX7_slides_40 rfl ?_
        refine a_ishl eX7_slides_41 ?_
        refine a_ixor eX7_slides_42 ?_
        refine pX1_10 ld30 eX7_slides_43 fl_X7_132 ?_
        refine a_iload_n eX7_slides_46 rfl ?_
        exact a_iret eX7_slides_47 rfl rfl hv
theorem tX7_at {l : Launch} {G : GT} {d : Nat} {M : Mem} {R : Option Value → Mem → Prop} {v1 : Int32} (hv : (v1 < 0 → R (some (.int (-1000000001))) M) ∧ (¬ (v1 < 0) → (10 ≤ v1 → R (some (.int (-1000000001))) M) ∧ (¬ (10 ≤ v1) → Tr l G (d + 3) mX1_peopleIn [.ref (G.1 30), .int v1] M (kI fun q M' => At l G (d + 4) mX7_at 15 [none, none] [.int q] M' R)))) : Tr l G (d + 4) mX7_at [.ref (G.1 0), .int v1] M R := by
  refine Tr.of rfl (Nat.le_of_ble_eq_true rfl) (vs := [some (.ref (G.1 0)), some (.int v1)]) rfl ?_
  refine a_iload_n eX7_at_0 rfl ?_
  refine qX7_70 rfl eX7_at_1 (Nat.le_of_ble_eq_true rfl) ?_
  refine Tr.of rfl (Nat.le_of_ble_eq_true rfl) (vs := [some (.int v1)]) rfl ?_
  refine a_iload_n eX7_isPlace_0 rfl ?_
  refine a_if_lt (tgt := 14) eX7_isPlace_1 (by decide) (fun w1 => ?_) (fun w1 => ?_)
  · replace hv := hv.1 w1
    refine a_iconst (v := 0) eX7_isPlace_14 (by decide) ?_
    refine a_iret eX7_isPlace_15 rfl rfl (ret_i ?_)
    refine a_if_eq (tgt := 18) eX7_at_4 (by decide) (fun _ => ?_) (fun h => absurd h (by decide))
    refine a_ldc eX7_at_18 kc_X7_73 ?_
    exact a_iret eX7_at_20 rfl rfl hv
  · replace hv := hv.2 w1
    refine a_iload_n eX7_isPlace_4 rfl ?_
    refine a_bipush (v := 10) eX7_isPlace_5 (by decide) ?_
    refine a_icmp_ge (tgt := 14) eX7_isPlace_7 (by decide) (fun w2 => ?_) (fun w2 => ?_)
    · replace hv := hv.1 w2
      refine a_iconst (v := 0) eX7_isPlace_14 (by decide) ?_
      refine a_iret eX7_isPlace_15 rfl rfl (ret_i ?_)
      refine a_if_eq (tgt := 18) eX7_at_4 (by decide) (fun _ => ?_) (fun h => absurd h (by decide))
      refine a_ldc eX7_at_18 kc_X7_73 ?_
      exact a_iret eX7_at_20 rfl rfl hv
    · replace hv := hv.2 w2
      refine a_iconst (v := 1) eX7_isPlace_10 (by decide) ?_
      refine a_goto (tgt := 15) eX7_isPlace_11 (by decide) ?_
      refine a_iret eX7_isPlace_15 rfl rfl (ret_i ?_)
      refine a_if_eq (tgt := 18) eX7_at_4 (by decide) (fun h => absurd h (by decide)) (fun _ => ?_)
      refine a_aload_n eX7_at_7 rfl ?_
      refine gX7_2 eX7_at_8 fl_X7_28 ?_
      refine a_iload_n eX7_at_11 rfl ?_
      exact qX7_139 ld30 rfl eX7_at_12 (Nat.le_of_ble_eq_true rfl) (tr_I [false, false] rfl rfl hv)
theorem bX7_at_15 {l : Launch} {G : GT} {d : Nat} {M : Mem} {R : Option Value → Mem → Prop} {r : Int32} (hv : R (some (.int r)) M) : At l G (d + 4) mX7_at 15 [none, none] [.int r] M R := by
  refine a_goto (tgt := 20) eX7_at_15 (by decide) ?_
  exact a_iret eX7_at_20 rfl rfl hv
theorem tX7_rule {l : Launch} {G : GT} {d : Nat} {M : Mem} {R : Option Value → Mem → Prop} {v1 : Int32} {v2 : Int32} (hv : (v2 < 0 → R (some (.int (-1000000001))) M) ∧ (¬ (v2 < 0) → (v2 ≤ 100 → (v1 = 0 → R (some (.int (M 30 11))) (um M 30 11 v2)) ∧ (¬ (v1 = 0) → (v1 = 1 → R (some (.int (M 30 12))) (um M 30 12 v2)) ∧ (¬ (v1 = 1) → R (some (.int (-1000000001))) M))) ∧ (¬ (v2 ≤ 100) → R (some (.int (-1000000001))) M))) : Tr l G (d + 4) mX7_rule [.ref (G.1 0), .int v1, .int v2] M R := by
  refine Tr.of rfl (Nat.le_of_ble_eq_true rfl) (vs := [some (.ref (G.1 0)), some (.int v1), some (.int v2), none]) rfl ?_
  refine a_iload_n eX7_rule_0 rfl ?_
  refine a_if_lt (tgt := 10) eX7_rule_1 (by decide) (fun w1 => ?_) (fun w1 => ?_)
  · replace hv := hv.1 w1
    refine a_ldc eX7_rule_10 kc_X7_73 ?_
    exact a_iret eX7_rule_12 rfl rfl hv
  · replace hv := hv.2 w1
    refine a_iload_n eX7_rule_4 rfl ?_
    refine a_bipush (v := 100) eX7_rule_5 (by decide) ?_
    refine a_icmp_le (tgt := 13) eX7_rule_7 (by decide) (fun w2 => ?_) (fun w2 => ?_)
    · replace hv := hv.1 w2
      refine a_iload_n eX7_rule_13 rfl ?_
      refine a_if_ne (tgt := 35) eX7_rule_14 (by decide) (fun w3 => ?_) (fun w3 => ?_)
      · replace hv := hv.2 w3
        refine a_iload_n eX7_rule_35 rfl ?_
        refine a_iconst (v := 1) eX7_rule_36 (by decide) ?_
        refine a_icmp_ne (tgt := 58) eX7_rule_37 (by decide) (fun w4 => ?_) (fun w4 => ?_)
        · replace hv := hv.2 w4
          refine a_ldc eX7_rule_58 kc_X7_73 ?_
          exact a_iret eX7_rule_60 rfl rfl hv
        · replace hv := hv.1 w4
          refine a_aload_n eX7_rule_40 rfl ?_
          refine gX7_2 eX7_rule_41 fl_X7_28 ?_
          refine gX1_12 ld30 eX7_rule_44 fl_X7_145 ?_
          refine a_istore_n (vs' := [some (.ref (G.1 0)), some (.int v1), some (.int v2), some (.int (M 30 12))]) eX7_rule_47 rfl (Nat.le_of_ble_eq_true rfl) rfl ?_
          refine a_aload_n eX7_rule_48 rfl ?_
          refine gX7_2 eX7_rule_49 fl_X7_28 ?_
          refine a_iload_n eX7_rule_52 rfl ?_
          refine pX1_12 ld30 eX7_rule_53 fl_X7_145 ?_
          refine a_iload_n eX7_rule_56 rfl ?_
          exact a_iret eX7_rule_57 rfl rfl hv
      · replace hv := hv.1 w3
        refine a_aload_n eX7_rule_17 rfl ?_
        refine gX7_2 eX7_rule_18 fl_X7_28 ?_
        refine gX1_11 ld30 eX7_rule_21 fl_X7_142 ?_
        refine a_istore_n (vs' := [some (.ref (G.1 0)), some (.int v1), some (.int v2), some (.int (M 30 11))]) eX7_rule_24 rfl (Nat.le_of_ble_eq_true rfl) rfl ?_
        refine a_aload_n eX7_rule_25 rfl ?_
        refine gX7_2 eX7_rule_26 fl_X7_28 ?_
        refine a_iload_n eX7_rule_29 rfl ?_
        refine pX1_11 ld30 eX7_rule_30 fl_X7_142 ?_
        refine a_iload_n eX7_rule_33 rfl ?_
        exact a_iret eX7_rule_34 rfl rfl hv
    · replace hv := hv.2 w2
      refine a_ldc eX7_rule_10 kc_X7_73 ?_
      exact a_iret eX7_rule_12 rfl rfl hv
theorem tX7_deal {l : Launch} {G : GT} {d : Nat} {M : Mem} {R : Option Value → Mem → Prop} {v1 : Int32} (hv : (v1 < 1 → R (some (.int (-1000000001))) M) ∧ (¬ (v1 < 1) → (v1 ≤ 8 → At l G (d + 4) mX7_deal 31 [some (.ref (G.1 0)), none, some (.int (if (8 - (M 30 1)) < v1 then (8 - (M 30 1)) else v1)), some (.int 0)] [] M R) ∧ (¬ (v1 ≤ 8) → R (some (.int (-1000000001))) M))) : Tr l G (d + 4) mX7_deal [.ref (G.1 0), .int v1] M R := by
  refine Tr.of rfl (Nat.le_of_ble_eq_true rfl) (vs := [some (.ref (G.1 0)), some (.int v1), none, none]) rfl ?_
  refine a_iload_n eX7_deal_0 rfl ?_
  refine a_iconst (v := 1) eX7_deal_1 (by decide) ?_
  refine a_icmp_lt (tgt := 11) eX7_deal_2 (by decide) (fun w1 => ?_) (fun w1 => ?_)
  · replace hv := hv.1 w1
    refine a_ldc eX7_deal_11 kc_X7_73 ?_
    exact a_iret eX7_deal_13 rfl rfl hv
  · replace hv := hv.2 w1
    refine a_iload_n eX7_deal_5 rfl ?_
    refine a_bipush (v := 8) eX7_deal_6 (by decide) ?_
    refine a_icmp_le (tgt := 14) eX7_deal_8 (by decide) (fun w2 => ?_) (fun w2 => ?_)
    · replace hv := hv.1 w2
      refine a_iload_n eX7_deal_14 rfl ?_
      refine a_bipush (v := 8) eX7_deal_15 (by decide) ?_
      refine a_aload_n eX7_deal_17 rfl ?_
      refine gX7_2 eX7_deal_18 fl_X7_28 ?_
      refine gX1_1 ld30 eX7_deal_21 fl_X7_148 ?_
      refine a_isub eX7_deal_24 ?_
      refine a_mmin eX7_deal_25 ml_X7_151 stMin inMa cwMin (by omega) (Nat.le_of_ble_eq_true rfl) ?_
      refine a_istore_n (vs' := [some (.ref (G.1 0)), some (.int v1), some (.int (if (8 - (M 30 1)) < v1 then (8 - (M 30 1)) else v1)), none]) eX7_deal_28 rfl (Nat.le_of_ble_eq_true rfl) rfl ?_
      refine a_iconst (v := 0) eX7_deal_29 (by decide) ?_
      refine a_istore_n (vs' := [some (.ref (G.1 0)), some (.int v1), some (.int (if (8 - (M 30 1)) < v1 then (8 - (M 30 1)) else v1)), some (.int 0)]) eX7_deal_30 rfl (Nat.le_of_ble_eq_true rfl) rfl ?_
      exact a_weak [true, false, true, true] rfl rfl hv
    · replace hv := hv.2 w2
      refine a_ldc eX7_deal_11 kc_X7_73 ?_
      exact a_iret eX7_deal_13 rfl rfl hv
theorem bX7_deal_31 {l : Launch} {G : GT} {d : Nat} {M : Mem} {R : Option Value → Mem → Prop} {v2 : Int32} {v3 : Int32} (hv : (v2 ≤ v3 → R (some (.int v2)) M) ∧ (¬ (v2 ≤ v3) → Tr l G (d + 3) mX1_addDrawn [.ref (G.1 30)] M (kV fun M' => At l G (d + 4) mX7_deal 43 [some (.ref (G.1 0)), none, some (.int v2), some (.int v3)] [] M' R))) : At l G (d + 4) mX7_deal 31 [some (.ref (G.1 0)), none, some (.int v2), some (.int v3)] [] M R := by
  refine a_iload_n eX7_deal_31 rfl ?_
  refine a_iload_n eX7_deal_32 rfl ?_
  refine a_icmp_ge (tgt := 49) eX7_deal_33 (by decide) (fun w1 => ?_) (fun w1 => ?_)
  · replace hv := hv.1 w1
    refine a_iload_n eX7_deal_49 rfl ?_
    exact a_iret eX7_deal_50 rfl rfl hv
  · replace hv := hv.2 w1
    refine a_aload_n eX7_deal_36 rfl ?_
    refine gX7_2 eX7_deal_37 fl_X7_28 ?_
    exact qX7_156 ld30 rfl eX7_deal_40 (Nat.le_of_ble_eq_true rfl) (tr_V [true, false, true, true] rfl rfl hv)
theorem bX7_deal_43 {l : Launch} {G : GT} {d : Nat} {M : Mem} {R : Option Value → Mem → Prop} {v2 : Int32} {v3 : Int32} (hv : At l G (d + 4) mX7_deal 31 [some (.ref (G.1 0)), none, some (.int v2), some (.int (v3 + 1))] [] M R) : At l G (d + 4) mX7_deal 43 [some (.ref (G.1 0)), none, some (.int v2), some (.int v3)] [] M R := by
  refine a_iinc (v := 1) (vs' := [some (.ref (G.1 0)), none, some (.int v2), some (.int (v3 + 1))]) eX7_deal_43 rfl rfl (by decide) rfl ?_
  refine a_goto (tgt := 31) eX7_deal_46 (by decide) ?_
  exact a_weak [true, false, true, true] rfl rfl hv
theorem tX7_seed {l : Launch} {G : GT} {d : Nat} {M : Mem} {R : Option Value → Mem → Prop} {v1 : Int32} (hv : R (some (.int (M 30 17))) (um M 30 17 v1)) : Tr l G (d + 4) mX7_seed [.ref (G.1 0), .int v1] M R := by
  refine Tr.of rfl (Nat.le_of_ble_eq_true rfl) (vs := [some (.ref (G.1 0)), some (.int v1), none]) rfl ?_
  refine a_aload_n eX7_seed_0 rfl ?_
  refine gX7_2 eX7_seed_1 fl_X7_28 ?_
  refine gX1_17 ld30 eX7_seed_4 fl_X7_159 ?_
  refine a_istore_n (vs' := [some (.ref (G.1 0)), some (.int v1), some (.int (M 30 17))]) eX7_seed_7 rfl (Nat.le_of_ble_eq_true rfl) rfl ?_
  refine a_aload_n eX7_seed_8 rfl ?_
  refine gX7_2 eX7_seed_9 fl_X7_28 ?_
  refine a_iload_n eX7_seed_12 rfl ?_
  refine pX1_17 ld30 eX7_seed_13 fl_X7_159 ?_
  refine a_iload_n eX7_seed_16 rfl ?_
  exact a_iret eX7_seed_17 rfl rfl hv
theorem tX7_days {l : Launch} {G : GT} {d : Nat} {M : Mem} {R : Option Value → Mem → Prop} {v1 : Int32} (hv : (v1 < 1 → R (some (.int (-1000000001))) M) ∧ (¬ (v1 < 1) → (v1 ≤ 100 → Tr l G (d + 3) mX1_passDays [.ref (G.1 30), .int (if (9999 - (M 30 16)) < v1 then (9999 - (M 30 16)) else v1)] M (kV fun M' => At l G (d + 4) mX7_days 44 [some (.ref (G.1 0)), none, some (.int (M 30 13))] [] M' R)) ∧ (¬ (v1 ≤ 100) → R (some (.int (-1000000001))) M))) : Tr l G (d + 4) mX7_days [.ref (G.1 0), .int v1] M R := by
  refine Tr.of rfl (Nat.le_of_ble_eq_true rfl) (vs := [some (.ref (G.1 0)), some (.int v1), none]) rfl ?_
  refine a_iload_n eX7_days_0 rfl ?_
  refine a_iconst (v := 1) eX7_days_1 (by decide) ?_
  refine a_icmp_lt (tgt := 11) eX7_days_2 (by decide) (fun w1 => ?_) (fun w1 => ?_)
  · replace hv := hv.1 w1
    refine a_ldc eX7_days_11 kc_X7_73 ?_
    exact a_iret eX7_days_13 rfl rfl hv
  · replace hv := hv.2 w1
    refine a_iload_n eX7_days_5 rfl ?_
    refine a_bipush (v := 100) eX7_days_6 (by decide) ?_
    refine a_icmp_le (tgt := 14) eX7_days_8 (by decide) (fun w2 => ?_) (fun w2 => ?_)
    · replace hv := hv.1 w2
      refine a_aload_n eX7_days_14 rfl ?_
      refine gX7_2 eX7_days_15 fl_X7_28 ?_
      refine gX1_13 ld30 eX7_days_18 fl_X7_162 ?_
      refine a_istore_n (vs' := [some (.ref (G.1 0)), some (.int v1), some (.int (M 30 13))]) eX7_days_21 rfl (Nat.le_of_ble_eq_true rfl) rfl ?_
      refine a_aload_n eX7_days_22 rfl ?_
      refine gX7_2 eX7_days_23 fl_X7_28 ?_
      refine a_iload_n eX7_days_26 rfl ?_
      refine a_sipush (v := 9999) eX7_days_27 (by decide) ?_
      refine a_aload_n eX7_days_30 rfl ?_
      refine gX7_2 eX7_days_31 fl_X7_28 ?_
      refine gX1_16 ld30 eX7_days_34 fl_X7_165 ?_
      refine a_isub eX7_days_37 ?_
      refine a_mmin eX7_days_38 ml_X7_151 stMin inMa cwMin (by omega) (Nat.le_of_ble_eq_true rfl) ?_
      exact qX7_168 ld30 rfl eX7_days_41 (Nat.le_of_ble_eq_true rfl) (tr_V [true, false, true] rfl rfl hv)
    · replace hv := hv.2 w2
      refine a_ldc eX7_days_11 kc_X7_73 ?_
      exact a_iret eX7_days_13 rfl rfl hv
theorem bX7_days_44 {l : Launch} {G : GT} {d : Nat} {M : Mem} {R : Option Value → Mem → Prop} {v2 : Int32} (hv : R (some (.int ((M 30 13) - v2))) M) : At l G (d + 4) mX7_days 44 [some (.ref (G.1 0)), none, some (.int v2)] [] M R := by
  refine a_aload_n eX7_days_44 rfl ?_
  refine gX7_2 eX7_days_45 fl_X7_28 ?_
  refine gX1_13 ld30 eX7_days_48 fl_X7_162 ?_
  refine a_iload_n eX7_days_51 rfl ?_
  refine a_isub eX7_days_52 ?_
  exact a_iret eX7_days_53 rfl rfl hv
theorem tX7_land {l : Launch} {G : GT} {d : Nat} {M : Mem} {R : Option Value → Mem → Prop} {v1 : Int32} (hv : (v1 = 0 → R (some (.int (M 30 13))) M) ∧ (v1 = 1 → R (some (.int (M 30 14))) M) ∧ (v1 = 2 → R (some (.int (M 30 15))) M) ∧ (v1 = 3 → Tr l G (d + 3) mX1_waysBorne [.ref (G.1 30)] M (kI fun q M' => At l G (d + 4) mX7_land 71 [none, none] [.int q] M' R)) ∧ (v1 = 4 → R (some (.int (M 30 10))) M) ∧ (v1 = 5 → Tr l G (d + 3) mX1_skinsOf [.ref (G.1 30), .int (((1 : Int32) <<< ((M 30 1) &&& 31)) - 1)] M (kI fun q M' => At l G (d + 4) mX7_land 101 [none, none] [.int q, .int (((1 : Int32) <<< ((M 30 6) &&& 31)) - 1)] M' R)) ∧ (¬ v1 = 0 → ¬ v1 = 1 → ¬ v1 = 2 → ¬ v1 = 3 → ¬ v1 = 4 → ¬ v1 = 5 → R (some (.int (-1000000001))) M)) : Tr l G (d + 4) mX7_land [.ref (G.1 0), .int v1] M R := by
  refine Tr.of rfl (Nat.le_of_ble_eq_true rfl) (vs := [some (.ref (G.1 0)), some (.int v1)]) rfl ?_
  refine a_iload_n eX7_land_0 rfl ?_
  by_cases w1 : v1 = 0
  · refine a_tswIn 0 (tgt := 40) eX7_land_1 w1 (by decide) (by decide) rfl (by decide) ?_
    replace hv := hv.1 w1
    refine a_aload_n eX7_land_40 rfl ?_
    refine gX7_2 eX7_land_41 fl_X7_28 ?_
    refine gX1_13 ld30 eX7_land_44 fl_X7_162 ?_
    exact a_iret eX7_land_47 rfl rfl hv
  by_cases w2 : v1 = 1
  · refine a_tswIn 1 (tgt := 48) eX7_land_1 w2 (by decide) (by decide) rfl (by decide) ?_
    replace hv := hv.2.1 w2
    refine a_aload_n eX7_land_48 rfl ?_
    refine gX7_2 eX7_land_49 fl_X7_28 ?_
    refine gX1_14 ld30 eX7_land_52 fl_X7_172 ?_
    exact a_iret eX7_land_55 rfl rfl hv
  by_cases w3 : v1 = 2
  · refine a_tswIn 2 (tgt := 56) eX7_land_1 w3 (by decide) (by decide) rfl (by decide) ?_
    replace hv := hv.2.2.1 w3
    refine a_aload_n eX7_land_56 rfl ?_
    refine gX7_2 eX7_land_57 fl_X7_28 ?_
    refine gX1_15 ld30 eX7_land_60 fl_X7_175 ?_
    exact a_iret eX7_land_63 rfl rfl hv
  by_cases w4 : v1 = 3
  · refine a_tswIn 3 (tgt := 64) eX7_land_1 w4 (by decide) (by decide) rfl (by decide) ?_
    replace hv := hv.2.2.2.1 w4
    refine a_aload_n eX7_land_64 rfl ?_
    refine gX7_2 eX7_land_65 fl_X7_28 ?_
    exact qX7_178 ld30 rfl eX7_land_68 (Nat.le_of_ble_eq_true rfl) (tr_I [false, false] rfl rfl hv)
  by_cases w5 : v1 = 4
  · refine a_tswIn 4 (tgt := 72) eX7_land_1 w5 (by decide) (by decide) rfl (by decide) ?_
    replace hv := hv.2.2.2.2.1 w5
    refine a_aload_n eX7_land_72 rfl ?_
    refine gX7_2 eX7_land_73 fl_X7_28 ?_
    refine gX1_10 ld30 eX7_land_76 fl_X7_132 ?_
    exact a_iret eX7_land_79 rfl rfl hv
  by_cases w6 : v1 = 5
  · refine a_tswIn 5 (tgt := 80) eX7_land_1 w6 (by decide) (by decide) rfl (by decide) ?_
    replace hv := hv.2.2.2.2.2.1 w6
    refine a_aload_n eX7_land_80 rfl ?_
    refine gX7_2 eX7_land_81 fl_X7_28 ?_
    refine qX7_182 ld30 rfl eX7_land_84 (Nat.le_of_ble_eq_true rfl) ?_
    refine Tr.of rfl (Nat.le_of_ble_eq_true rfl) (vs := [some (.ref (G.1 30))]) rfl ?_
    refine a_iconst (v := 1) eX1_allWays_0 (by decide) ?_
    refine a_aload_n eX1_allWays_1 rfl ?_
    refine gX1_6 ld30 eX1_allWays_2 fl_X1_60 ?_
    refine a_ishl eX1_allWays_5 ?_
    refine a_iconst (v := 1) eX1_allWays_6 (by decide) ?_
    refine a_isub eX1_allWays_7 ?_
    refine a_iret eX1_allWays_8 rfl rfl (ret_i ?_)
    refine a_aload_n eX7_land_87 rfl ?_
    refine gX7_2 eX7_land_88 fl_X7_28 ?_
    refine a_aload_n eX7_land_91 rfl ?_
    refine gX7_2 eX7_land_92 fl_X7_28 ?_
    refine qX7_185 ld30 rfl eX7_land_95 (Nat.le_of_ble_eq_true rfl) ?_
    refine Tr.of rfl (Nat.le_of_ble_eq_true rfl) (vs := [some (.ref (G.1 30))]) rfl ?_
    refine a_iconst (v := 1) eX1_everyone_0 (by decide) ?_
    refine a_aload_n eX1_everyone_1 rfl ?_
    refine gX1_1 ld30 eX1_everyone_2 fl_X1_51 ?_
    refine a_ishl eX1_everyone_5 ?_
    refine a_iconst (v := 1) eX1_everyone_6 (by decide) ?_
    refine a_isub eX1_everyone_7 ?_
    refine a_iret eX1_everyone_8 rfl rfl (ret_i ?_)
    exact qX7_188 ld30 rfl eX7_land_98 (Nat.le_of_ble_eq_true rfl) (tr_I [false, false] rfl rfl hv)
  refine a_tswOut (tgt := 105) eX7_land_1 (by have zw1 := lv_neT (a := 0) w1 (by decide); have zw2 := lv_neT (a := 1) w2 (by decide); have zw3 := lv_neT (a := 2) w3 (by decide); have zw4 := lv_neT (a := 3) w4 (by decide); have zw5 := lv_neT (a := 4) w5 (by decide); have zw6 := lv_neT (a := 5) w6 (by decide); omega) (by decide) ?_
  replace hv := hv.2.2.2.2.2.2 w1 w2 w3 w4 w5 w6
  refine a_ldc eX7_land_105 kc_X7_73 ?_
  exact a_iret eX7_land_107 rfl rfl hv
theorem bX7_land_101 {l : Launch} {G : GT} {d : Nat} {M : Mem} {R : Option Value → Mem → Prop} {r : Int32} {t1 : Int32} (hv : R (some (.int (t1 &&& (r ^^^ (-1))))) M) : At l G (d + 4) mX7_land 101 [none, none] [.int r, .int t1] M R := by
  refine a_iconst (v := (-1)) eX7_land_101 (by decide) ?_
  refine a_ixor eX7_land_102 ?_
  refine a_iand eX7_land_103 ?_
  exact a_iret eX7_land_104 rfl rfl hv
theorem bX7_land_71 {l : Launch} {G : GT} {d : Nat} {M : Mem} {R : Option Value → Mem → Prop} {r : Int32} (hv : R (some (.int r)) M) : At l G (d + 4) mX7_land 71 [none, none] [.int r] M R := by
  exact a_iret eX7_land_71 rfl rfl hv
theorem tX7_journey {l : Launch} {G : GT} {d : Nat} {M : Mem} {R : Option Value → Mem → Prop} {v1 : Int32} {v2 : Int32} {v3 : Int32} (hv : ((v1 &&& ((((1 : Int32) <<< ((M 30 1) &&& 31)) - 1) ^^^ (-1))) = 0 → (v2 < 0 → R (some (.int (-1000000001))) M) ∧ (¬ (v2 < 0) → (10 ≤ v2 → R (some (.int (-1000000001))) M) ∧ (¬ (10 ≤ v2) → (v3 < 0 → R (some (.int (-1000000001))) M) ∧ (¬ (v3 < 0) → (10 ≤ v3 → R (some (.int (-1000000001))) M) ∧ (¬ (10 ≤ v3) → Tr l G (d + 3) mX6_look [.ref (G.1 60), .ref (G.1 30)] M (kV fun M' => At l G (d + 4) mX7_journey 42 [some (.ref (G.1 0)), some (.int v1), some (.int v2), some (.int v3)] [] M' R)))))) ∧ (¬ ((v1 &&& ((((1 : Int32) <<< ((M 30 1) &&& 31)) - 1) ^^^ (-1))) = 0) → R (some (.int (-1000000001))) M)) : Tr l G (d + 4) mX7_journey [.ref (G.1 0), .int v1, .int v2, .int v3] M R := by
  refine Tr.of rfl (Nat.le_of_ble_eq_true rfl) (vs := [some (.ref (G.1 0)), some (.int v1), some (.int v2), some (.int v3)]) rfl ?_
  refine a_iload_n eX7_journey_0 rfl ?_
  refine a_aload_n eX7_journey_1 rfl ?_
  refine gX7_2 eX7_journey_2 fl_X7_28 ?_
  refine qX7_185 ld30 rfl eX7_journey_5 (Nat.le_of_ble_eq_true rfl) ?_
  refine Tr.of rfl (Nat.le_of_ble_eq_true rfl) (vs := [some (.ref (G.1 30))]) rfl ?_
  refine a_iconst (v := 1) eX1_everyone_0 (by decide) ?_
  refine a_aload_n eX1_everyone_1 rfl ?_
  refine gX1_1 ld30 eX1_everyone_2 fl_X1_51 ?_
  refine a_ishl eX1_everyone_5 ?_
  refine a_iconst (v := 1) eX1_everyone_6 (by decide) ?_
  refine a_isub eX1_everyone_7 ?_
  refine a_iret eX1_everyone_8 rfl rfl (ret_i ?_)
  refine a_iconst (v := (-1)) eX7_journey_8 (by decide) ?_
  refine a_ixor eX7_journey_9 ?_
  refine a_iand eX7_journey_10 ?_
  refine a_if_ne (tgt := 28) eX7_journey_11 (by decide) (fun w1 => ?_) (fun w1 => ?_)
  · replace hv := hv.2 w1
    refine a_ldc eX7_journey_28 kc_X7_73 ?_
    exact a_iret eX7_journey_30 rfl rfl hv
  · replace hv := hv.1 w1
    refine a_iload_n eX7_journey_14 rfl ?_
    refine qX7_70 rfl eX7_journey_15 (Nat.le_of_ble_eq_true rfl) ?_
    refine Tr.of rfl (Nat.le_of_ble_eq_true rfl) (vs := [some (.int v2)]) rfl ?_
    refine a_iload_n eX7_isPlace_0 rfl ?_
    refine a_if_lt (tgt := 14) eX7_isPlace_1 (by decide) (fun w2 => ?_) (fun w2 => ?_)
    · replace hv := hv.1 w2
      refine a_iconst (v := 0) eX7_isPlace_14 (by decide) ?_
      refine a_iret eX7_isPlace_15 rfl rfl (ret_i ?_)
      refine a_if_eq (tgt := 28) eX7_journey_18 (by decide) (fun _ => ?_) (fun h => absurd h (by decide))
      refine a_ldc eX7_journey_28 kc_X7_73 ?_
      exact a_iret eX7_journey_30 rfl rfl hv
    · replace hv := hv.2 w2
      refine a_iload_n eX7_isPlace_4 rfl ?_
      refine a_bipush (v := 10) eX7_isPlace_5 (by decide) ?_
      refine a_icmp_ge (tgt := 14) eX7_isPlace_7 (by decide) (fun w3 => ?_) (fun w3 => ?_)
      · replace hv := hv.1 w3
        refine a_iconst (v := 0) eX7_isPlace_14 (by decide) ?_
        refine a_iret eX7_isPlace_15 rfl rfl (ret_i ?_)
        refine a_if_eq (tgt := 28) eX7_journey_18 (by decide) (fun _ => ?_) (fun h => absurd h (by decide))
        refine a_ldc eX7_journey_28 kc_X7_73 ?_
        exact a_iret eX7_journey_30 rfl rfl hv
      · replace hv := hv.2 w3
        refine a_iconst (v := 1) eX7_isPlace_10 (by decide) ?_
        refine a_goto (tgt := 15) eX7_isPlace_11 (by decide) ?_
        refine a_iret eX7_isPlace_15 rfl rfl (ret_i ?_)
        refine a_if_eq (tgt := 28) eX7_journey_18 (by decide) (fun h => absurd h (by decide)) (fun _ => ?_)
        refine a_iload_n eX7_journey_21 rfl ?_
        refine qX7_70 rfl eX7_journey_22 (Nat.le_of_ble_eq_true rfl) ?_
        refine Tr.of rfl (Nat.le_of_ble_eq_true rfl) (vs := [some (.int v3)]) rfl ?_
        refine a_iload_n eX7_isPlace_0 rfl ?_
        refine a_if_lt (tgt := 14) eX7_isPlace_1 (by decide) (fun w4 => ?_) (fun w4 => ?_)
        · replace hv := hv.1 w4
          refine a_iconst (v := 0) eX7_isPlace_14 (by decide) ?_
          refine a_iret eX7_isPlace_15 rfl rfl (ret_i ?_)
          refine a_if_ne (tgt := 31) eX7_journey_25 (by decide) (fun h => absurd h (by decide)) (fun _ => ?_)
          refine a_ldc eX7_journey_28 kc_X7_73 ?_
          exact a_iret eX7_journey_30 rfl rfl hv
        · replace hv := hv.2 w4
          refine a_iload_n eX7_isPlace_4 rfl ?_
          refine a_bipush (v := 10) eX7_isPlace_5 (by decide) ?_
          refine a_icmp_ge (tgt := 14) eX7_isPlace_7 (by decide) (fun w5 => ?_) (fun w5 => ?_)
          · replace hv := hv.1 w5
            refine a_iconst (v := 0) eX7_isPlace_14 (by decide) ?_
            refine a_iret eX7_isPlace_15 rfl rfl (ret_i ?_)
            refine a_if_ne (tgt := 31) eX7_journey_25 (by decide) (fun h => absurd h (by decide)) (fun _ => ?_)
            refine a_ldc eX7_journey_28 kc_X7_73 ?_
            exact a_iret eX7_journey_30 rfl rfl hv
          · replace hv := hv.2 w5
            refine a_iconst (v := 1) eX7_isPlace_10 (by decide) ?_
            refine a_goto (tgt := 15) eX7_isPlace_11 (by decide) ?_
            refine a_iret eX7_isPlace_15 rfl rfl (ret_i ?_)
            refine a_if_ne (tgt := 31) eX7_journey_25 (by decide) (fun _ => ?_) (fun h => absurd h (by decide))
            refine a_aload_n eX7_journey_31 rfl ?_
            refine gX7_6 eX7_journey_32 fl_X7_41 ?_
            refine a_aload_n eX7_journey_35 rfl ?_
            refine gX7_2 eX7_journey_36 fl_X7_28 ?_
            exact qX7_191 rfl eX7_journey_39 (Nat.le_of_ble_eq_true rfl) (tr_V [true, true, true, true] rfl rfl hv)
theorem bX7_journey_42 {l : Launch} {G : GT} {d : Nat} {M : Mem} {R : Option Value → Mem → Prop} {v1 : Int32} {v2 : Int32} {v3 : Int32} (hv : Tr l G (d + 3) mX6_fewestWays [.ref (G.1 60), .int v1, .int v2, .int v3] M (kI fun q M' => At l G (d + 4) mX7_journey 52 [none, none, none, none] [.int q] M' R)) : At l G (d + 4) mX7_journey 42 [some (.ref (G.1 0)), some (.int v1), some (.int v2), some (.int v3)] [] M R := by
  refine a_aload_n eX7_journey_42 rfl ?_
  refine gX7_6 eX7_journey_43 fl_X7_41 ?_
  refine a_iload_n eX7_journey_46 rfl ?_
  refine a_iload_n eX7_journey_47 rfl ?_
  refine a_iload_n eX7_journey_48 rfl ?_
  exact qX7_195 rfl eX7_journey_49 (Nat.le_of_ble_eq_true rfl) (tr_I [false, false, false, false] rfl rfl hv)
theorem bX7_journey_52 {l : Launch} {G : GT} {d : Nat} {M : Mem} {R : Option Value → Mem → Prop} {r : Int32} (hv : R (some (.int r)) M) : At l G (d + 4) mX7_journey 52 [none, none, none, none] [.int r] M R := by
  exact a_iret eX7_journey_52 rfl rfl hv
theorem tX7_reach {l : Launch} {G : GT} {d : Nat} {M : Mem} {R : Option Value → Mem → Prop} {v1 : Int32} (hv : (v1 < 0 → R (some (.int (-1000000001))) M) ∧ (¬ (v1 < 0) → ((M 30 1) ≤ v1 → R (some (.int (-1000000001))) M) ∧ (¬ ((M 30 1) ≤ v1) → Tr l G (d + 3) mX6_look [.ref (G.1 60), .ref (G.1 30)] M (kV fun M' => At l G (d + 4) mX7_reach 22 [some (.ref (G.1 0)), some (.int v1)] [] M' R)))) : Tr l G (d + 4) mX7_reach [.ref (G.1 0), .int v1] M R := by
  refine Tr.of rfl (Nat.le_of_ble_eq_true rfl) (vs := [some (.ref (G.1 0)), some (.int v1)]) rfl ?_
  refine a_aload_n eX7_reach_0 rfl ?_
  refine a_iload_n eX7_reach_1 rfl ?_
  refine qX7_82 rfl eX7_reach_2 (Nat.le_of_ble_eq_true rfl) ?_
  refine Tr.of rfl (Nat.le_of_ble_eq_true rfl) (vs := [some (.ref (G.1 0)), some (.int v1)]) rfl ?_
  refine a_iload_n eX7_isOne_0 rfl ?_
  refine a_if_lt (tgt := 19) eX7_isOne_1 (by decide) (fun w1 => ?_) (fun w1 => ?_)
  · replace hv := hv.1 w1
    refine a_iconst (v := 0) eX7_isOne_19 (by decide) ?_
    refine a_iret eX7_isOne_20 rfl rfl (ret_i ?_)
    refine a_if_ne (tgt := 11) eX7_reach_5 (by decide) (fun h => absurd h (by decide)) (fun _ => ?_)
    refine a_ldc eX7_reach_8 kc_X7_73 ?_
    exact a_iret eX7_reach_10 rfl rfl hv
  · replace hv := hv.2 w1
    refine a_iload_n eX7_isOne_4 rfl ?_
    refine a_aload_n eX7_isOne_5 rfl ?_
    refine gX7_2 eX7_isOne_6 fl_X7_28 ?_
    refine gX1_1 ld30 eX7_isOne_9 fl_X7_148 ?_
    refine a_icmp_ge (tgt := 19) eX7_isOne_12 (by decide) (fun w2 => ?_) (fun w2 => ?_)
    · replace hv := hv.1 w2
      refine a_iconst (v := 0) eX7_isOne_19 (by decide) ?_
      refine a_iret eX7_isOne_20 rfl rfl (ret_i ?_)
      refine a_if_ne (tgt := 11) eX7_reach_5 (by decide) (fun h => absurd h (by decide)) (fun _ => ?_)
      refine a_ldc eX7_reach_8 kc_X7_73 ?_
      exact a_iret eX7_reach_10 rfl rfl hv
    · replace hv := hv.2 w2
      refine a_iconst (v := 1) eX7_isOne_15 (by decide) ?_
      refine a_goto (tgt := 20) eX7_isOne_16 (by decide) ?_
      refine a_iret eX7_isOne_20 rfl rfl (ret_i ?_)
      refine a_if_ne (tgt := 11) eX7_reach_5 (by decide) (fun _ => ?_) (fun h => absurd h (by decide))
      refine a_aload_n eX7_reach_11 rfl ?_
      refine gX7_6 eX7_reach_12 fl_X7_41 ?_
      refine a_aload_n eX7_reach_15 rfl ?_
      refine gX7_2 eX7_reach_16 fl_X7_28 ?_
      exact qX7_191 rfl eX7_reach_19 (Nat.le_of_ble_eq_true rfl) (tr_V [true, true] rfl rfl hv)
theorem bX7_reach_22 {l : Launch} {G : GT} {d : Nat} {M : Mem} {R : Option Value → Mem → Prop} {v1 : Int32} (hv : vp_in v1 8 ∧ Tr l G (d + 3) mX6_reached [.ref (G.1 60), .int ((1 : Int32) <<< (v1 &&& 31)), .int (M 32 (ix v1))] M (kI fun q M' => At l G (d + 4) mX7_reach 41 [none, none] [.int q] M' R)) : At l G (d + 4) mX7_reach 22 [some (.ref (G.1 0)), some (.int v1)] [] M R := by
  refine a_aload_n eX7_reach_22 rfl ?_
  refine gX7_6 eX7_reach_23 fl_X7_41 ?_
  refine a_iconst (v := 1) eX7_reach_26 (by decide) ?_
  refine a_iload_n eX7_reach_27 rfl ?_
  refine a_ishl eX7_reach_28 ?_
  refine a_aload_n eX7_reach_29 rfl ?_
  refine gX7_2 eX7_reach_30 fl_X7_28 ?_
  refine gX1_3 ld30 eX7_reach_33 fl_X7_88 ?_
  refine a_iload_n eX7_reach_36 rfl ?_
  obtain ⟨h1, hv⟩ := hv
  refine a_iald eX7_reach_37 (ld_8 ld30 2 (by decide)) (ld_in ld30 2 (by decide)) h1 ?_
  exact qX7_199 rfl eX7_reach_38 (Nat.le_of_ble_eq_true rfl) (tr_I [false, false] rfl rfl hv)
theorem bX7_reach_41 {l : Launch} {G : GT} {d : Nat} {M : Mem} {R : Option Value → Mem → Prop} {r : Int32} (hv : R (some (.int r)) M) : At l G (d + 4) mX7_reach 41 [none, none] [.int r] M R := by
  exact a_iret eX7_reach_41 rfl rfl hv
theorem tX7_company {l : Launch} {G : GT} {d : Nat} {M : Mem} {R : Option Value → Mem → Prop} {v1 : Int32} {v2 : Int32} {v3 : Int32} (hv : (v1 < 0 → R (some (.int (-1000000001))) M) ∧ (¬ (v1 < 0) → (10 ≤ v1 → R (some (.int (-1000000001))) M) ∧ (¬ (10 ≤ v1) → (v2 < 0 → R (some (.int (-1000000001))) M) ∧ (¬ (v2 < 0) → (10 ≤ v2 → R (some (.int (-1000000001))) M) ∧ (¬ (10 ≤ v2) → (v3 < 0 → R (some (.int (-1000000001))) M) ∧ (¬ (v3 < 0) → (v3 ≤ 1 → Tr l G (d + 3) mX6_look [.ref (G.1 60), .ref (G.1 30)] M (kV fun M' => At l G (d + 4) mX7_company 37 [some (.ref (G.1 0)), some (.int v1), some (.int v2), some (.int v3), none] [] M' R)) ∧ (¬ (v3 ≤ 1) → R (some (.int (-1000000001))) M))))))) : Tr l G (d + 4) mX7_company [.ref (G.1 0), .int v1, .int v2, .int v3] M R := by
  refine Tr.of rfl (Nat.le_of_ble_eq_true rfl) (vs := [some (.ref (G.1 0)), some (.int v1), some (.int v2), some (.int v3), none]) rfl ?_
  refine a_iload_n eX7_company_0 rfl ?_
  refine qX7_70 rfl eX7_company_1 (Nat.le_of_ble_eq_true rfl) ?_
  refine Tr.of rfl (Nat.le_of_ble_eq_true rfl) (vs := [some (.int v1)]) rfl ?_
  refine a_iload_n eX7_isPlace_0 rfl ?_
  refine a_if_lt (tgt := 14) eX7_isPlace_1 (by decide) (fun w1 => ?_) (fun w1 => ?_)
  · replace hv := hv.1 w1
    refine a_iconst (v := 0) eX7_isPlace_14 (by decide) ?_
    refine a_iret eX7_isPlace_15 rfl rfl (ret_i ?_)
    refine a_if_eq (tgt := 23) eX7_company_4 (by decide) (fun _ => ?_) (fun h => absurd h (by decide))
    refine a_ldc eX7_company_23 kc_X7_73 ?_
    exact a_iret eX7_company_25 rfl rfl hv
  · replace hv := hv.2 w1
    refine a_iload_n eX7_isPlace_4 rfl ?_
    refine a_bipush (v := 10) eX7_isPlace_5 (by decide) ?_
    refine a_icmp_ge (tgt := 14) eX7_isPlace_7 (by decide) (fun w2 => ?_) (fun w2 => ?_)
    · replace hv := hv.1 w2
      refine a_iconst (v := 0) eX7_isPlace_14 (by decide) ?_
      refine a_iret eX7_isPlace_15 rfl rfl (ret_i ?_)
      refine a_if_eq (tgt := 23) eX7_company_4 (by decide) (fun _ => ?_) (fun h => absurd h (by decide))
      refine a_ldc eX7_company_23 kc_X7_73 ?_
      exact a_iret eX7_company_25 rfl rfl hv
    · replace hv := hv.2 w2
      refine a_iconst (v := 1) eX7_isPlace_10 (by decide) ?_
      refine a_goto (tgt := 15) eX7_isPlace_11 (by decide) ?_
      refine a_iret eX7_isPlace_15 rfl rfl (ret_i ?_)
      refine a_if_eq (tgt := 23) eX7_company_4 (by decide) (fun h => absurd h (by decide)) (fun _ => ?_)
      refine a_iload_n eX7_company_7 rfl ?_
      refine qX7_70 rfl eX7_company_8 (Nat.le_of_ble_eq_true rfl) ?_
      refine Tr.of rfl (Nat.le_of_ble_eq_true rfl) (vs := [some (.int v2)]) rfl ?_
      refine a_iload_n eX7_isPlace_0 rfl ?_
      refine a_if_lt (tgt := 14) eX7_isPlace_1 (by decide) (fun w3 => ?_) (fun w3 => ?_)
      · replace hv := hv.1 w3
        refine a_iconst (v := 0) eX7_isPlace_14 (by decide) ?_
        refine a_iret eX7_isPlace_15 rfl rfl (ret_i ?_)
        refine a_if_eq (tgt := 23) eX7_company_11 (by decide) (fun _ => ?_) (fun h => absurd h (by decide))
        refine a_ldc eX7_company_23 kc_X7_73 ?_
        exact a_iret eX7_company_25 rfl rfl hv
      · replace hv := hv.2 w3
        refine a_iload_n eX7_isPlace_4 rfl ?_
        refine a_bipush (v := 10) eX7_isPlace_5 (by decide) ?_
        refine a_icmp_ge (tgt := 14) eX7_isPlace_7 (by decide) (fun w4 => ?_) (fun w4 => ?_)
        · replace hv := hv.1 w4
          refine a_iconst (v := 0) eX7_isPlace_14 (by decide) ?_
          refine a_iret eX7_isPlace_15 rfl rfl (ret_i ?_)
          refine a_if_eq (tgt := 23) eX7_company_11 (by decide) (fun _ => ?_) (fun h => absurd h (by decide))
          refine a_ldc eX7_company_23 kc_X7_73 ?_
          exact a_iret eX7_company_25 rfl rfl hv
        · replace hv := hv.2 w4
          refine a_iconst (v := 1) eX7_isPlace_10 (by decide) ?_
          refine a_goto (tgt := 15) eX7_isPlace_11 (by decide) ?_
          refine a_iret eX7_isPlace_15 rfl rfl (ret_i ?_)
          refine a_if_eq (tgt := 23) eX7_company_11 (by decide) (fun h => absurd h (by decide)) (fun _ => ?_)
          refine a_iload_n eX7_company_14 rfl ?_
          refine a_if_lt (tgt := 23) eX7_company_15 (by decide) (fun w5 => ?_) (fun w5 => ?_)
          · replace hv := hv.1 w5
            refine a_ldc eX7_company_23 kc_X7_73 ?_
            exact a_iret eX7_company_25 rfl rfl hv
          · replace hv := hv.2 w5
            refine a_iload_n eX7_company_18 rfl ?_
            refine a_iconst (v := 1) eX7_company_19 (by decide) ?_
            refine a_icmp_le (tgt := 26) eX7_company_20 (by decide) (fun w6 => ?_) (fun w6 => ?_)
            · replace hv := hv.1 w6
              refine a_aload_n eX7_company_26 rfl ?_
              refine gX7_6 eX7_company_27 fl_X7_41 ?_
              refine a_aload_n eX7_company_30 rfl ?_
              refine gX7_2 eX7_company_31 fl_X7_28 ?_
              exact qX7_191 rfl eX7_company_34 (Nat.le_of_ble_eq_true rfl) (tr_V [true, true, true, true, false] rfl rfl hv)
            · replace hv := hv.2 w6
              refine a_ldc eX7_company_23 kc_X7_73 ?_
              exact a_iret eX7_company_25 rfl rfl hv
theorem bX7_company_37 {l : Launch} {G : GT} {d : Nat} {M : Mem} {R : Option Value → Mem → Prop} {v1 : Int32} {v2 : Int32} {v3 : Int32} (hv : Tr l G (d + 3) mX1_peopleIn [.ref (G.1 30), .int v1] M (kI fun q M' => At l G (d + 4) mX7_company 49 [none, some (.int v1), some (.int v2), some (.int v3), none] [.int q, .ref (G.1 60)] M' R)) : At l G (d + 4) mX7_company 37 [some (.ref (G.1 0)), some (.int v1), some (.int v2), some (.int v3), none] [] M R := by
  refine a_aload_n eX7_company_37 rfl ?_
  refine gX7_6 eX7_company_38 fl_X7_41 ?_
  refine a_aload_n eX7_company_41 rfl ?_
  refine gX7_2 eX7_company_42 fl_X7_28 ?_
  refine a_iload_n eX7_company_45 rfl ?_
  exact qX7_139 ld30 rfl eX7_company_46 (Nat.le_of_ble_eq_true rfl) (tr_I [false, true, true, true, false] rfl rfl hv)
theorem bX7_company_49 {l : Launch} {G : GT} {d : Nat} {M : Mem} {R : Option Value → Mem → Prop} {v1 : Int32} {v2 : Int32} {v3 : Int32} {r : Int32} (hv : Tr l G (d + 3) mX6_fewestOf [.ref (G.1 60), .int r, .int v1, .int v2] M (kI fun q M' => At l G (d + 4) mX7_company 54 [none, none, none, some (.int v3), none] [.int q] M' R)) : At l G (d + 4) mX7_company 49 [none, some (.int v1), some (.int v2), some (.int v3), none] [.int r, .ref (G.1 60)] M R := by
  refine a_iload_n eX7_company_49 rfl ?_
  refine a_iload_n eX7_company_50 rfl ?_
  exact qX7_202 rfl eX7_company_51 (Nat.le_of_ble_eq_true rfl) (tr_I [false, false, false, true, false] rfl rfl hv)
theorem bX7_company_54 {l : Launch} {G : GT} {d : Nat} {M : Mem} {R : Option Value → Mem → Prop} {v3 : Int32} {r : Int32} (hv : (v3 = 0 → R (some (.int r)) M) ∧ (¬ (v3 = 0) → (r = (-1000000005) → R (some (.int r)) M) ∧ (¬ (r = (-1000000005)) → Tr l G (d + 3) mJ6_bitCount_0f7a4 [.int r] M (kI fun q M' => At l G (d + 4) mX7_company 77 [none, none, none, none, none] [.int q] M' R)))) : At l G (d + 4) mX7_company 54 [none, none, none, some (.int v3), none] [.int r] M R := by
  refine a_istore (vs' := [none, none, none, some (.int v3), some (.int r)]) eX7_company_54 rfl (Nat.le_of_ble_eq_true rfl) rfl ?_
  refine a_iload_n eX7_company_56 rfl ?_
  refine a_if_eq (tgt := 67) eX7_company_57 (by decide) (fun w1 => ?_) (fun w1 => ?_)
  · replace hv := hv.1 w1
    refine a_iload eX7_company_67 rfl ?_
    refine a_goto (tgt := 77) eX7_company_69 (by decide) ?_
    exact a_iret eX7_company_77 rfl rfl hv
  · replace hv := hv.2 w1
    refine a_iload eX7_company_60 rfl ?_
    refine a_ldc eX7_company_62 kc_X7_205 ?_
    refine a_icmp_ne (tgt := 72) eX7_company_64 (by decide) (fun w2 => ?_) (fun w2 => ?_)
    · replace hv := hv.2 w2
      refine a_iload eX7_company_72 rfl ?_
      exact qX7_121 rfl eX7_company_74 (Nat.le_of_ble_eq_true rfl) (tr_I [false, false, false, false, false] rfl rfl hv)
    · replace hv := hv.1 w2
      refine a_iload eX7_company_67 rfl ?_
      refine a_goto (tgt := 77) eX7_company_69 (by decide) ?_
      exact a_iret eX7_company_77 rfl rfl hv
theorem bX7_company_77 {l : Launch} {G : GT} {d : Nat} {M : Mem} {R : Option Value → Mem → Prop} {r : Int32} (hv : R (some (.int r)) M) : At l G (d + 4) mX7_company 77 [none, none, none, none, none] [.int r] M R := by
  exact a_iret eX7_company_77 rfl rfl hv
theorem tX7_regiment {l : Launch} {G : GT} {d : Nat} {M : Mem} {R : Option Value → Mem → Prop} {v1 : Int32} (hv : (v1 < 0 → R (some (.int (-1000000001))) M) ∧ (¬ (v1 < 0) → (v1 ≤ 1 → Tr l G (d + 3) mX1_fewestBearers [.ref (G.1 30)] M (kI fun q M' => At l G (d + 4) mX7_regiment 19 [none, some (.int v1), none] [.int q] M' R)) ∧ (¬ (v1 ≤ 1) → R (some (.int (-1000000001))) M))) : Tr l G (d + 4) mX7_regiment [.ref (G.1 0), .int v1] M R := by
  refine Tr.of rfl (Nat.le_of_ble_eq_true rfl) (vs := [some (.ref (G.1 0)), some (.int v1), none]) rfl ?_
  refine a_iload_n eX7_regiment_0 rfl ?_
  refine a_if_lt (tgt := 9) eX7_regiment_1 (by decide) (fun w1 => ?_) (fun w1 => ?_)
  · replace hv := hv.1 w1
    refine a_ldc eX7_regiment_9 kc_X7_73 ?_
    exact a_iret eX7_regiment_11 rfl rfl hv
  · replace hv := hv.2 w1
    refine a_iload_n eX7_regiment_4 rfl ?_
    refine a_iconst (v := 1) eX7_regiment_5 (by decide) ?_
    refine a_icmp_le (tgt := 12) eX7_regiment_6 (by decide) (fun w2 => ?_) (fun w2 => ?_)
    · replace hv := hv.1 w2
      refine a_aload_n eX7_regiment_12 rfl ?_
      refine gX7_2 eX7_regiment_13 fl_X7_28 ?_
      exact qX7_206 ld30 rfl eX7_regiment_16 (Nat.le_of_ble_eq_true rfl) (tr_I [false, true, false] rfl rfl hv)
    · replace hv := hv.2 w2
      refine a_ldc eX7_regiment_9 kc_X7_73 ?_
      exact a_iret eX7_regiment_11 rfl rfl hv
theorem bX7_regiment_19 {l : Launch} {G : GT} {d : Nat} {M : Mem} {R : Option Value → Mem → Prop} {v1 : Int32} {r : Int32} (hv : (v1 = 0 → R (some (.int r)) M) ∧ (¬ (v1 = 0) → Tr l G (d + 3) mJ6_bitCount_0f7a4 [.int r] M (kI fun q M' => At l G (d + 4) mX7_regiment 32 [none, none, none] [.int q] M' R))) : At l G (d + 4) mX7_regiment 19 [none, some (.int v1), none] [.int r] M R := by
  refine a_istore_n (vs' := [none, some (.int v1), some (.int r)]) eX7_regiment_19 rfl (Nat.le_of_ble_eq_true rfl) rfl ?_
  refine a_iload_n eX7_regiment_20 rfl ?_
  refine a_if_ne (tgt := 28) eX7_regiment_21 (by decide) (fun w1 => ?_) (fun w1 => ?_)
  · replace hv := hv.2 w1
    refine a_iload_n eX7_regiment_28 rfl ?_
    exact qX7_121 rfl eX7_regiment_29 (Nat.le_of_ble_eq_true rfl) (tr_I [false, false, false] rfl rfl hv)
  · replace hv := hv.1 w1
    refine a_iload_n eX7_regiment_24 rfl ?_
    refine a_goto (tgt := 32) eX7_regiment_25 (by decide) ?_
    exact a_iret eX7_regiment_32 rfl rfl hv
theorem bX7_regiment_32 {l : Launch} {G : GT} {d : Nat} {M : Mem} {R : Option Value → Mem → Prop} {r : Int32} (hv : R (some (.int r)) M) : At l G (d + 4) mX7_regiment 32 [none, none, none] [.int r] M R := by
  exact a_iret eX7_regiment_32 rfl rfl hv
theorem tX7_dear {l : Launch} {G : GT} {d : Nat} {M : Mem} {R : Option Value → Mem → Prop} {v1 : Int32} (hv : (v1 < 0 → R (some (.int (-1000000001))) M) ∧ (¬ (v1 < 0) → (v1 ≤ 1 → ((M 30 1) = 0 → R (some (.int (-1000000005))) M) ∧ (¬ ((M 30 1) = 0) → At l G (d + 4) mX7_dear 29 [some (.ref (G.1 0)), some (.int v1), some (.int 0), some (.int 1)] [] M R)) ∧ (¬ (v1 ≤ 1) → R (some (.int (-1000000001))) M))) : Tr l G (d + 4) mX7_dear [.ref (G.1 0), .int v1] M R := by
  refine Tr.of rfl (Nat.le_of_ble_eq_true rfl) (vs := [some (.ref (G.1 0)), some (.int v1), none, none]) rfl ?_
  refine a_iload_n eX7_dear_0 rfl ?_
  refine a_if_lt (tgt := 9) eX7_dear_1 (by decide) (fun w1 => ?_) (fun w1 => ?_)
  · replace hv := hv.1 w1
    refine a_ldc eX7_dear_9 kc_X7_73 ?_
    exact a_iret eX7_dear_11 rfl rfl hv
  · replace hv := hv.2 w1
    refine a_iload_n eX7_dear_4 rfl ?_
    refine a_iconst (v := 1) eX7_dear_5 (by decide) ?_
    refine a_icmp_le (tgt := 12) eX7_dear_6 (by decide) (fun w2 => ?_) (fun w2 => ?_)
    · replace hv := hv.1 w2
      refine a_aload_n eX7_dear_12 rfl ?_
      refine gX7_2 eX7_dear_13 fl_X7_28 ?_
      refine gX1_1 ld30 eX7_dear_16 fl_X7_148 ?_
      refine a_if_ne (tgt := 25) eX7_dear_19 (by decide) (fun w3 => ?_) (fun w3 => ?_)
      · replace hv := hv.2 w3
        refine a_iconst (v := 0) eX7_dear_25 (by decide) ?_
        refine a_istore_n (vs' := [some (.ref (G.1 0)), some (.int v1), some (.int 0), none]) eX7_dear_26 rfl (Nat.le_of_ble_eq_true rfl) rfl ?_
        refine a_iconst (v := 1) eX7_dear_27 (by decide) ?_
        refine a_istore_n (vs' := [some (.ref (G.1 0)), some (.int v1), some (.int 0), some (.int 1)]) eX7_dear_28 rfl (Nat.le_of_ble_eq_true rfl) rfl ?_
        exact a_weak [true, true, true, true] rfl rfl hv
      · replace hv := hv.1 w3
        refine a_ldc eX7_dear_22 kc_X7_205 ?_
        exact a_iret eX7_dear_24 rfl rfl hv
    · replace hv := hv.2 w2
      refine a_ldc eX7_dear_9 kc_X7_73 ?_
      exact a_iret eX7_dear_11 rfl rfl hv
theorem bX7_dear_29 {l : Launch} {G : GT} {d : Nat} {M : Mem} {R : Option Value → Mem → Prop} {v1 : Int32} {v2 : Int32} {v3 : Int32} (hv : ((M 30 1) ≤ v3 → (v1 = 0 → R (some (.int v2)) M) ∧ (¬ (v1 = 0) → Tr l G (d + 3) mX1_waysMissed [.ref (G.1 30), .int v2] M (kI fun q M' => At l G (d + 4) mX7_dear 83 [none, none, none, none] [.int q] M' R))) ∧ (¬ ((M 30 1) ≤ v3) → Tr l G (d + 3) mX1_waysMissed [.ref (G.1 30), .int v3] M (kI fun q M' => At l G (d + 4) mX7_dear 48 [some (.ref (G.1 0)), some (.int v1), some (.int v2), some (.int v3)] [.int q] M' R))) : At l G (d + 4) mX7_dear 29 [some (.ref (G.1 0)), some (.int v1), some (.int v2), some (.int v3)] [] M R := by
  refine a_iload_n eX7_dear_29 rfl ?_
  refine a_aload_n eX7_dear_30 rfl ?_
  refine gX7_2 eX7_dear_31 fl_X7_28 ?_
  refine gX1_1 ld30 eX7_dear_34 fl_X7_148 ?_
  refine a_icmp_ge (tgt := 67) eX7_dear_37 (by decide) (fun w1 => ?_) (fun w1 => ?_)
  · replace hv := hv.1 w1
    refine a_iload_n eX7_dear_67 rfl ?_
    refine a_if_ne (tgt := 75) eX7_dear_68 (by decide) (fun w2 => ?_) (fun w2 => ?_)
    · replace hv := hv.2 w2
      refine a_aload_n eX7_dear_75 rfl ?_
      refine gX7_2 eX7_dear_76 fl_X7_28 ?_
      refine a_iload_n eX7_dear_79 rfl ?_
      exact qX7_209 ld30 rfl eX7_dear_80 (Nat.le_of_ble_eq_true rfl) (tr_I [false, false, false, false] rfl rfl hv)
    · replace hv := hv.1 w2
      refine a_iload_n eX7_dear_71 rfl ?_
      refine a_goto (tgt := 83) eX7_dear_72 (by decide) ?_
      exact a_iret eX7_dear_83 rfl rfl hv
  · replace hv := hv.2 w1
    refine a_aload_n eX7_dear_40 rfl ?_
    refine gX7_2 eX7_dear_41 fl_X7_28 ?_
    refine a_iload_n eX7_dear_44 rfl ?_
    exact qX7_209 ld30 rfl eX7_dear_45 (Nat.le_of_ble_eq_true rfl) (tr_I [true, true, true, true] rfl rfl hv)
theorem bX7_dear_48 {l : Launch} {G : GT} {d : Nat} {M : Mem} {R : Option Value → Mem → Prop} {v1 : Int32} {v2 : Int32} {v3 : Int32} {r : Int32} (hv : Tr l G (d + 3) mX1_waysMissed [.ref (G.1 30), .int v2] M (kI fun q M' => At l G (d + 4) mX7_dear 56 [some (.ref (G.1 0)), some (.int v1), some (.int v2), some (.int v3)] [.int q, .int r] M' R)) : At l G (d + 4) mX7_dear 48 [some (.ref (G.1 0)), some (.int v1), some (.int v2), some (.int v3)] [.int r] M R := by
  refine a_aload_n eX7_dear_48 rfl ?_
  refine gX7_2 eX7_dear_49 fl_X7_28 ?_
  refine a_iload_n eX7_dear_52 rfl ?_
  exact qX7_209 ld30 rfl eX7_dear_53 (Nat.le_of_ble_eq_true rfl) (tr_I [true, true, true, true] rfl rfl hv)
theorem bX7_dear_56 {l : Launch} {G : GT} {d : Nat} {M : Mem} {R : Option Value → Mem → Prop} {v1 : Int32} {v2 : Int32} {v3 : Int32} {r : Int32} {t1 : Int32} (hv : (t1 ≤ r → At l G (d + 4) mX7_dear 29 [some (.ref (G.1 0)), some (.int v1), some (.int v2), some (.int (v3 + 1))] [] M R) ∧ (¬ (t1 ≤ r) → At l G (d + 4) mX7_dear 29 [some (.ref (G.1 0)), some (.int v1), some (.int v3), some (.int (v3 + 1))] [] M R)) : At l G (d + 4) mX7_dear 56 [some (.ref (G.1 0)), some (.int v1), some (.int v2), some (.int v3)] [.int r, .int t1] M R := by
  refine a_icmp_le (tgt := 61) eX7_dear_56 (by decide) (fun w1 => ?_) (fun w1 => ?_)
  · replace hv := hv.1 w1
    refine a_iinc (v := 1) (vs' := [some (.ref (G.1 0)), some (.int v1), some (.int v2), some (.int (v3 + 1))]) eX7_dear_61 rfl rfl (by decide) rfl ?_
    refine a_goto (tgt := 29) eX7_dear_64 (by decide) ?_
    exact a_weak [true, true, true, true] rfl rfl hv
  · replace hv := hv.2 w1
    refine a_iload_n eX7_dear_59 rfl ?_
    refine a_istore_n (vs' := [some (.ref (G.1 0)), some (.int v1), some (.int v3), some (.int v3)]) eX7_dear_60 rfl (Nat.le_of_ble_eq_true rfl) rfl ?_
    refine a_iinc (v := 1) (vs' := [some (.ref (G.1 0)), some (.int v1), some (.int v3), some (.int (v3 + 1))]) eX7_dear_61 rfl rfl (by decide) rfl ?_
    refine a_goto (tgt := 29) eX7_dear_64 (by decide) ?_
    exact a_weak [true, true, true, true] rfl rfl hv
theorem bX7_dear_83 {l : Launch} {G : GT} {d : Nat} {M : Mem} {R : Option Value → Mem → Prop} {r : Int32} (hv : R (some (.int r)) M) : At l G (d + 4) mX7_dear 83 [none, none, none, none] [.int r] M R := by
  exact a_iret eX7_dear_83 rfl rfl hv
theorem tX7_behind {l : Launch} {G : GT} {d : Nat} {M : Mem} {R : Option Value → Mem → Prop} {v1 : Int32} {v2 : Int32} (hv : (v1 < 0 → R (some (.int (-1000000001))) M) ∧ (¬ (v1 < 0) → (100 < v1 → R (some (.int (-1000000001))) M) ∧ (¬ (100 < v1) → (v2 < 0 → R (some (.int (-1000000001))) M) ∧ (¬ (v2 < 0) → (v2 ≤ 3 → Tr l G (d + 3) mX1_take [.ref (G.1 40), .ref (G.1 30)] M (kV fun M' => At l G (d + 4) mX7_behind 43 [some (.ref (G.1 0)), some (.int v1), some (.int v2)] [] M' R)) ∧ (¬ (v2 ≤ 3) → ((v2 - 4) < 0 → R (some (.int (-1000000001))) M) ∧ (¬ ((v2 - 4) < 0) → ((M 30 1) ≤ (v2 - 4) → R (some (.int (-1000000001))) M) ∧ (¬ ((M 30 1) ≤ (v2 - 4)) → Tr l G (d + 3) mX1_take [.ref (G.1 40), .ref (G.1 30)] M (kV fun M' => At l G (d + 4) mX7_behind 43 [some (.ref (G.1 0)), some (.int v1), some (.int v2)] [] M' R)))))))) : Tr l G (d + 4) mX7_behind [.ref (G.1 0), .int v1, .int v2] M R := by
  refine Tr.of rfl (Nat.le_of_ble_eq_true rfl) (vs := [some (.ref (G.1 0)), some (.int v1), some (.int v2)]) rfl ?_
  refine a_iload_n eX7_behind_0 rfl ?_
  refine a_if_lt (tgt := 29) eX7_behind_1 (by decide) (fun w1 => ?_) (fun w1 => ?_)
  · replace hv := hv.1 w1
    refine a_ldc eX7_behind_29 kc_X7_73 ?_
    exact a_iret eX7_behind_31 rfl rfl hv
  · replace hv := hv.2 w1
    refine a_iload_n eX7_behind_4 rfl ?_
    refine a_bipush (v := 100) eX7_behind_5 (by decide) ?_
    refine a_icmp_gt (tgt := 29) eX7_behind_7 (by decide) (fun w2 => ?_) (fun w2 => ?_)
    · replace hv := hv.1 w2
      refine a_ldc eX7_behind_29 kc_X7_73 ?_
      exact a_iret eX7_behind_31 rfl rfl hv
    · replace hv := hv.2 w2
      refine a_iload_n eX7_behind_10 rfl ?_
      refine a_if_lt (tgt := 29) eX7_behind_11 (by decide) (fun w3 => ?_) (fun w3 => ?_)
      · replace hv := hv.1 w3
        refine a_ldc eX7_behind_29 kc_X7_73 ?_
        exact a_iret eX7_behind_31 rfl rfl hv
      · replace hv := hv.2 w3
        refine a_iload_n eX7_behind_14 rfl ?_
        refine a_iconst (v := 3) eX7_behind_15 (by decide) ?_
        refine a_icmp_le (tgt := 32) eX7_behind_16 (by decide) (fun w4 => ?_) (fun w4 => ?_)
        · replace hv := hv.1 w4
          refine a_aload_n eX7_behind_32 rfl ?_
          refine gX7_3 eX7_behind_33 fl_X7_32 ?_
          refine a_aload_n eX7_behind_36 rfl ?_
          refine gX7_2 eX7_behind_37 fl_X7_28 ?_
          exact qX7_212 ld40 rfl eX7_behind_40 (Nat.le_of_ble_eq_true rfl) (tr_V [true, true, true] rfl rfl hv)
        · replace hv := hv.2 w4
          refine a_aload_n eX7_behind_19 rfl ?_
          refine a_iload_n eX7_behind_20 rfl ?_
          refine a_iconst (v := 4) eX7_behind_21 (by decide) ?_
          refine a_isub eX7_behind_22 ?_
          refine qX7_82 rfl eX7_behind_23 (Nat.le_of_ble_eq_true rfl) ?_
          refine Tr.of rfl (Nat.le_of_ble_eq_true rfl) (vs := [some (.ref (G.1 0)), some (.int (v2 - 4))]) rfl ?_
          refine a_iload_n eX7_isOne_0 rfl ?_
          refine a_if_lt (tgt := 19) eX7_isOne_1 (by decide) (fun w5 => ?_) (fun w5 => ?_)
          · replace hv := hv.1 w5
            refine a_iconst (v := 0) eX7_isOne_19 (by decide) ?_
            refine a_iret eX7_isOne_20 rfl rfl (ret_i ?_)
            refine a_if_ne (tgt := 32) eX7_behind_26 (by decide) (fun h => absurd h (by decide)) (fun _ => ?_)
            refine a_ldc eX7_behind_29 kc_X7_73 ?_
            exact a_iret eX7_behind_31 rfl rfl hv
          · replace hv := hv.2 w5
            refine a_iload_n eX7_isOne_4 rfl ?_
            refine a_aload_n eX7_isOne_5 rfl ?_
            refine gX7_2 eX7_isOne_6 fl_X7_28 ?_
            refine gX1_1 ld30 eX7_isOne_9 fl_X7_148 ?_
            refine a_icmp_ge (tgt := 19) eX7_isOne_12 (by decide) (fun w6 => ?_) (fun w6 => ?_)
            · replace hv := hv.1 w6
              refine a_iconst (v := 0) eX7_isOne_19 (by decide) ?_
              refine a_iret eX7_isOne_20 rfl rfl (ret_i ?_)
              refine a_if_ne (tgt := 32) eX7_behind_26 (by decide) (fun h => absurd h (by decide)) (fun _ => ?_)
              refine a_ldc eX7_behind_29 kc_X7_73 ?_
              exact a_iret eX7_behind_31 rfl rfl hv
            · replace hv := hv.2 w6
              refine a_iconst (v := 1) eX7_isOne_15 (by decide) ?_
              refine a_goto (tgt := 20) eX7_isOne_16 (by decide) ?_
              refine a_iret eX7_isOne_20 rfl rfl (ret_i ?_)
              refine a_if_ne (tgt := 32) eX7_behind_26 (by decide) (fun _ => ?_) (fun h => absurd h (by decide))
              refine a_aload_n eX7_behind_32 rfl ?_
              refine gX7_3 eX7_behind_33 fl_X7_32 ?_
              refine a_aload_n eX7_behind_36 rfl ?_
              refine gX7_2 eX7_behind_37 fl_X7_28 ?_
              exact qX7_212 ld40 rfl eX7_behind_40 (Nat.le_of_ble_eq_true rfl) (tr_V [true, true, true] rfl rfl hv)
theorem bX7_behind_43 {l : Launch} {G : GT} {d : Nat} {M : Mem} {R : Option Value → Mem → Prop} {v1 : Int32} {v2 : Int32} (hv : Tr l G (d + 3) mX1_passDays [.ref (G.1 40), .int v1] M (kV fun M' => At l G (d + 4) mX7_behind 51 [some (.ref (G.1 0)), none, some (.int v2)] [] M' R)) : At l G (d + 4) mX7_behind 43 [some (.ref (G.1 0)), some (.int v1), some (.int v2)] [] M R := by
  refine a_aload_n eX7_behind_43 rfl ?_
  refine gX7_3 eX7_behind_44 fl_X7_32 ?_
  refine a_iload_n eX7_behind_47 rfl ?_
  exact qX7_168 ld40 rfl eX7_behind_48 (Nat.le_of_ble_eq_true rfl) (tr_V [true, false, true] rfl rfl hv)
theorem bX7_behind_51 {l : Launch} {G : GT} {d : Nat} {M : Mem} {R : Option Value → Mem → Prop} {v2 : Int32} (hv : (v2 = 0 → R (some (.int (M 40 13))) M) ∧ (v2 = 1 → R (some (.int (M 40 14))) M) ∧ (v2 = 2 → R (some (.int (M 40 15))) M) ∧ (v2 = 3 → Tr l G (d + 3) mX1_waysBorne [.ref (G.1 40)] M (kI fun q M' => At l G (d + 4) mX7_behind 115 [none, none, none] [.int q] M' R)) ∧ (¬ v2 = 0 → ¬ v2 = 1 → ¬ v2 = 2 → ¬ v2 = 3 → vp_in (v2 - 4) 8 ∧ R (some (.int (M 42 (ix (v2 - 4))))) M)) : At l G (d + 4) mX7_behind 51 [some (.ref (G.1 0)), none, some (.int v2)] [] M R := by
  refine a_iload_n eX7_behind_51 rfl ?_
  by_cases w1 : v2 = 0
  · refine a_tswIn 0 (tgt := 84) eX7_behind_52 w1 (by decide) (by decide) rfl (by decide) ?_
    replace hv := hv.1 w1
    refine a_aload_n eX7_behind_84 rfl ?_
    refine gX7_3 eX7_behind_85 fl_X7_32 ?_
    refine gX1_13 ld40 eX7_behind_88 fl_X7_162 ?_
    exact a_iret eX7_behind_91 rfl rfl hv
  by_cases w2 : v2 = 1
  · refine a_tswIn 1 (tgt := 92) eX7_behind_52 w2 (by decide) (by decide) rfl (by decide) ?_
    replace hv := hv.2.1 w2
    refine a_aload_n eX7_behind_92 rfl ?_
    refine gX7_3 eX7_behind_93 fl_X7_32 ?_
    refine gX1_14 ld40 eX7_behind_96 fl_X7_172 ?_
    exact a_iret eX7_behind_99 rfl rfl hv
  by_cases w3 : v2 = 2
  · refine a_tswIn 2 (tgt := 100) eX7_behind_52 w3 (by decide) (by decide) rfl (by decide) ?_
    replace hv := hv.2.2.1 w3
    refine a_aload_n eX7_behind_100 rfl ?_
    refine gX7_3 eX7_behind_101 fl_X7_32 ?_
    refine gX1_15 ld40 eX7_behind_104 fl_X7_175 ?_
    exact a_iret eX7_behind_107 rfl rfl hv
  by_cases w4 : v2 = 3
  · refine a_tswIn 3 (tgt := 108) eX7_behind_52 w4 (by decide) (by decide) rfl (by decide) ?_
    replace hv := hv.2.2.2.1 w4
    refine a_aload_n eX7_behind_108 rfl ?_
    refine gX7_3 eX7_behind_109 fl_X7_32 ?_
    exact qX7_178 ld40 rfl eX7_behind_112 (Nat.le_of_ble_eq_true rfl) (tr_I [false, false, false] rfl rfl hv)
  refine a_tswOut (tgt := 116) eX7_behind_52 (by have zw1 := lv_neT (a := 0) w1 (by decide); have zw2 := lv_neT (a := 1) w2 (by decide); have zw3 := lv_neT (a := 2) w3 (by decide); have zw4 := lv_neT (a := 3) w4 (by decide); omega) (by decide) ?_
  replace hv := hv.2.2.2.2 w1 w2 w3 w4
  refine a_aload_n eX7_behind_116 rfl ?_
  refine gX7_3 eX7_behind_117 fl_X7_32 ?_
  refine gX1_3 ld40 eX7_behind_120 fl_X7_88 ?_
  refine a_iload_n eX7_behind_123 rfl ?_
  refine a_iconst (v := 4) eX7_behind_124 (by decide) ?_
  refine a_isub eX7_behind_125 ?_
  obtain ⟨h5, hv⟩ := hv
  refine a_iald eX7_behind_126 (ld_8 ld40 2 (by decide)) (ld_in ld40 2 (by decide)) h5 ?_
  exact a_iret eX7_behind_127 rfl rfl hv
theorem bX7_behind_115 {l : Launch} {G : GT} {d : Nat} {M : Mem} {R : Option Value → Mem → Prop} {r : Int32} (hv : R (some (.int r)) M) : At l G (d + 4) mX7_behind 115 [none, none, none] [.int r] M R := by
  exact a_iret eX7_behind_115 rfl rfl hv
theorem tX7_arrives {l : Launch} {G : GT} {d : Nat} {M : Mem} {R : Option Value → Mem → Prop} {v1 : Int32} {v2 : Int32} (hv : (v1 < 0 → R (some (.int (-1000000001))) M) ∧ (¬ (v1 < 0) → ((M 30 1) ≤ v1 → R (some (.int (-1000000001))) M) ∧ (¬ ((M 30 1) ≤ v1) → (v2 < 0 → R (some (.int (-1000000001))) M) ∧ (¬ (v2 < 0) → (10 ≤ v2 → R (some (.int (-1000000001))) M) ∧ (¬ (10 ≤ v2) → Tr l G (d + 3) mX1_take [.ref (G.1 40), .ref (G.1 30)] M (kV fun M' => At l G (d + 4) mX7_arrives 29 [some (.ref (G.1 0)), some (.int v1), some (.int v2), none] [] M' R)))))) : Tr l G (d + 4) mX7_arrives [.ref (G.1 0), .int v1, .int v2] M R := by
  refine Tr.of rfl (Nat.le_of_ble_eq_true rfl) (vs := [some (.ref (G.1 0)), some (.int v1), some (.int v2), none]) rfl ?_
  refine a_aload_n eX7_arrives_0 rfl ?_
  refine a_iload_n eX7_arrives_1 rfl ?_
  refine qX7_82 rfl eX7_arrives_2 (Nat.le_of_ble_eq_true rfl) ?_
  refine Tr.of rfl (Nat.le_of_ble_eq_true rfl) (vs := [some (.ref (G.1 0)), some (.int v1)]) rfl ?_
  refine a_iload_n eX7_isOne_0 rfl ?_
  refine a_if_lt (tgt := 19) eX7_isOne_1 (by decide) (fun w1 => ?_) (fun w1 => ?_)
  · replace hv := hv.1 w1
    refine a_iconst (v := 0) eX7_isOne_19 (by decide) ?_
    refine a_iret eX7_isOne_20 rfl rfl (ret_i ?_)
    refine a_if_eq (tgt := 15) eX7_arrives_5 (by decide) (fun _ => ?_) (fun h => absurd h (by decide))
    refine a_ldc eX7_arrives_15 kc_X7_73 ?_
    exact a_iret eX7_arrives_17 rfl rfl hv
  · replace hv := hv.2 w1
    refine a_iload_n eX7_isOne_4 rfl ?_
    refine a_aload_n eX7_isOne_5 rfl ?_
    refine gX7_2 eX7_isOne_6 fl_X7_28 ?_
    refine gX1_1 ld30 eX7_isOne_9 fl_X7_148 ?_
    refine a_icmp_ge (tgt := 19) eX7_isOne_12 (by decide) (fun w2 => ?_) (fun w2 => ?_)
    · replace hv := hv.1 w2
      refine a_iconst (v := 0) eX7_isOne_19 (by decide) ?_
      refine a_iret eX7_isOne_20 rfl rfl (ret_i ?_)
      refine a_if_eq (tgt := 15) eX7_arrives_5 (by decide) (fun _ => ?_) (fun h => absurd h (by decide))
      refine a_ldc eX7_arrives_15 kc_X7_73 ?_
      exact a_iret eX7_arrives_17 rfl rfl hv
    · replace hv := hv.2 w2
      refine a_iconst (v := 1) eX7_isOne_15 (by decide) ?_
      refine a_goto (tgt := 20) eX7_isOne_16 (by decide) ?_
      refine a_iret eX7_isOne_20 rfl rfl (ret_i ?_)
      refine a_if_eq (tgt := 15) eX7_arrives_5 (by decide) (fun h => absurd h (by decide)) (fun _ => ?_)
      refine a_iload_n eX7_arrives_8 rfl ?_
      refine qX7_70 rfl eX7_arrives_9 (Nat.le_of_ble_eq_true rfl) ?_
      refine Tr.of rfl (Nat.le_of_ble_eq_true rfl) (vs := [some (.int v2)]) rfl ?_
      refine a_iload_n eX7_isPlace_0 rfl ?_
      refine a_if_lt (tgt := 14) eX7_isPlace_1 (by decide) (fun w3 => ?_) (fun w3 => ?_)
      · replace hv := hv.1 w3
        refine a_iconst (v := 0) eX7_isPlace_14 (by decide) ?_
        refine a_iret eX7_isPlace_15 rfl rfl (ret_i ?_)
        refine a_if_ne (tgt := 18) eX7_arrives_12 (by decide) (fun h => absurd h (by decide)) (fun _ => ?_)
        refine a_ldc eX7_arrives_15 kc_X7_73 ?_
        exact a_iret eX7_arrives_17 rfl rfl hv
      · replace hv := hv.2 w3
        refine a_iload_n eX7_isPlace_4 rfl ?_
        refine a_bipush (v := 10) eX7_isPlace_5 (by decide) ?_
        refine a_icmp_ge (tgt := 14) eX7_isPlace_7 (by decide) (fun w4 => ?_) (fun w4 => ?_)
        · replace hv := hv.1 w4
          refine a_iconst (v := 0) eX7_isPlace_14 (by decide) ?_
          refine a_iret eX7_isPlace_15 rfl rfl (ret_i ?_)
          refine a_if_ne (tgt := 18) eX7_arrives_12 (by decide) (fun h => absurd h (by decide)) (fun _ => ?_)
          refine a_ldc eX7_arrives_15 kc_X7_73 ?_
          exact a_iret eX7_arrives_17 rfl rfl hv
        · replace hv := hv.2 w4
          refine a_iconst (v := 1) eX7_isPlace_10 (by decide) ?_
          refine a_goto (tgt := 15) eX7_isPlace_11 (by decide) ?_
          refine a_iret eX7_isPlace_15 rfl rfl (ret_i ?_)
          refine a_if_ne (tgt := 18) eX7_arrives_12 (by decide) (fun _ => ?_) (fun h => absurd h (by decide))
          refine a_aload_n eX7_arrives_18 rfl ?_
          refine gX7_3 eX7_arrives_19 fl_X7_32 ?_
          refine a_aload_n eX7_arrives_22 rfl ?_
          refine gX7_2 eX7_arrives_23 fl_X7_28 ?_
          exact qX7_212 ld40 rfl eX7_arrives_26 (Nat.le_of_ble_eq_true rfl) (tr_V [true, true, true, false] rfl rfl hv)
theorem bX7_arrives_29 {l : Launch} {G : GT} {d : Nat} {M : Mem} {R : Option Value → Mem → Prop} {v1 : Int32} {v2 : Int32} (hv : At l G (d + 4) mX7_arrives 31 [some (.ref (G.1 0)), some (.int v1), some (.int v2), some (.int 0)] [] M R) : At l G (d + 4) mX7_arrives 29 [some (.ref (G.1 0)), some (.int v1), some (.int v2), none] [] M R := by
  refine a_iconst (v := 0) eX7_arrives_29 (by decide) ?_
  refine a_istore_n (vs' := [some (.ref (G.1 0)), some (.int v1), some (.int v2), some (.int 0)]) eX7_arrives_30 rfl (Nat.le_of_ble_eq_true rfl) rfl ?_
  exact a_weak [true, true, true, true] rfl rfl hv
theorem bX7_arrives_31 {l : Launch} {G : GT} {d : Nat} {M : Mem} {R : Option Value → Mem → Prop} {v1 : Int32} {v2 : Int32} {v3 : Int32} (hv : (200 ≤ v3 → vp_in v1 8 ∧ ((M 42 (ix v1)) = v2 → R (some (.int 200)) M) ∧ (¬ ((M 42 (ix v1)) = v2) → R (some (.int (-1000000005))) M)) ∧ (¬ (200 ≤ v3) → vp_in v1 8 ∧ ((M 42 (ix v1)) = v2 → R (some (.int v3)) M) ∧ (¬ ((M 42 (ix v1)) = v2) → Tr l G (d + 3) mX1_passDays [.ref (G.1 40), .int 1] M (kV fun M' => At l G (d + 4) mX7_arrives 61 [some (.ref (G.1 0)), some (.int v1), some (.int v2), some (.int v3)] [] M' R)))) : At l G (d + 4) mX7_arrives 31 [some (.ref (G.1 0)), some (.int v1), some (.int v2), some (.int v3)] [] M R := by
  refine a_iload_n eX7_arrives_31 rfl ?_
  refine a_sipush (v := 200) eX7_arrives_32 (by decide) ?_
  refine a_icmp_ge (tgt := 67) eX7_arrives_35 (by decide) (fun w1 => ?_) (fun w1 => ?_)
  · replace hv := hv.1 w1
    refine a_aload_n eX7_arrives_67 rfl ?_
    refine gX7_3 eX7_arrives_68 fl_X7_32 ?_
    refine gX1_3 ld40 eX7_arrives_71 fl_X7_88 ?_
    refine a_iload_n eX7_arrives_74 rfl ?_
    obtain ⟨h2, hv⟩ := hv
    refine a_iald eX7_arrives_75 (ld_8 ld40 2 (by decide)) (ld_in ld40 2 (by decide)) h2 ?_
    refine a_iload_n eX7_arrives_76 rfl ?_
    refine a_icmp_ne (tgt := 86) eX7_arrives_77 (by decide) (fun w3 => ?_) (fun w3 => ?_)
    · replace hv := hv.2 w3
      refine a_ldc eX7_arrives_86 kc_X7_205 ?_
      exact a_iret eX7_arrives_88 rfl rfl hv
    · replace hv := hv.1 w3
      refine a_sipush (v := 200) eX7_arrives_80 (by decide) ?_
      refine a_goto (tgt := 88) eX7_arrives_83 (by decide) ?_
      exact a_iret eX7_arrives_88 rfl rfl hv
  · replace hv := hv.2 w1
    refine a_aload_n eX7_arrives_38 rfl ?_
    refine gX7_3 eX7_arrives_39 fl_X7_32 ?_
    refine gX1_3 ld40 eX7_arrives_42 fl_X7_88 ?_
    refine a_iload_n eX7_arrives_45 rfl ?_
    obtain ⟨h4, hv⟩ := hv
    refine a_iald eX7_arrives_46 (ld_8 ld40 2 (by decide)) (ld_in ld40 2 (by decide)) h4 ?_
    refine a_iload_n eX7_arrives_47 rfl ?_
    refine a_icmp_ne (tgt := 53) eX7_arrives_48 (by decide) (fun w5 => ?_) (fun w5 => ?_)
    · replace hv := hv.2 w5
      refine a_aload_n eX7_arrives_53 rfl ?_
      refine gX7_3 eX7_arrives_54 fl_X7_32 ?_
      refine a_iconst (v := 1) eX7_arrives_57 (by decide) ?_
      exact qX7_168 ld40 rfl eX7_arrives_58 (Nat.le_of_ble_eq_true rfl) (tr_V [true, true, true, true] rfl rfl hv)
    · replace hv := hv.1 w5
      refine a_iload_n eX7_arrives_51 rfl ?_
      exact a_iret eX7_arrives_52 rfl rfl hv
theorem bX7_arrives_61 {l : Launch} {G : GT} {d : Nat} {M : Mem} {R : Option Value → Mem → Prop} {v1 : Int32} {v2 : Int32} {v3 : Int32} (hv : At l G (d + 4) mX7_arrives 31 [some (.ref (G.1 0)), some (.int v1), some (.int v2), some (.int (v3 + 1))] [] M R) : At l G (d + 4) mX7_arrives 61 [some (.ref (G.1 0)), some (.int v1), some (.int v2), some (.int v3)] [] M R := by
  refine a_iinc (v := 1) (vs' := [some (.ref (G.1 0)), some (.int v1), some (.int v2), some (.int (v3 + 1))]) eX7_arrives_61 rfl rfl (by decide) rfl ?_
  refine a_goto (tgt := 31) eX7_arrives_64 (by decide) ?_
  exact a_weak [true, true, true, true] rfl rfl hv
theorem tX7_inks {l : Launch} {G : GT} {d : Nat} {M : Mem} {R : Option Value → Mem → Prop} {v1 : Int32} {v2 : Int32} {v3 : Int32} (hv : (v1 < 0 → R (some (.int (-1000000001))) M) ∧ (¬ (v1 < 0) → ((M 30 1) ≤ v1 → R (some (.int (-1000000001))) M) ∧ (¬ ((M 30 1) ≤ v1) → (v2 < 1 → R (some (.int (-1000000001))) M) ∧ (¬ (v2 < 1) → (60 < v2 → R (some (.int (-1000000001))) M) ∧ (¬ (60 < v2) → (v3 < 0 → R (some (.int (-1000000001))) M) ∧ (¬ (v3 < 0) → (v3 ≤ 1 → At l G (d + 4) mX7_inks 42 [some (.ref (G.1 0)), some (.int v1), some (.int v2), some (.int v3), some (.int (-1000000005)), some (.int (-1000000005)), some (.int 0)] [] M R) ∧ (¬ (v3 ≤ 1) → R (some (.int (-1000000001))) M))))))) : Tr l G (d + 4) mX7_inks [.ref (G.1 0), .int v1, .int v2, .int v3] M R := by
  refine Tr.of rfl (Nat.le_of_ble_eq_true rfl) (vs := [some (.ref (G.1 0)), some (.int v1), some (.int v2), some (.int v3), none, none, none]) rfl ?_
  refine a_aload_n eX7_inks_0 rfl ?_
  refine a_iload_n eX7_inks_1 rfl ?_
  refine qX7_82 rfl eX7_inks_2 (Nat.le_of_ble_eq_true rfl) ?_
  refine Tr.of rfl (Nat.le_of_ble_eq_true rfl) (vs := [some (.ref (G.1 0)), some (.int v1)]) rfl ?_
  refine a_iload_n eX7_isOne_0 rfl ?_
  refine a_if_lt (tgt := 19) eX7_isOne_1 (by decide) (fun w1 => ?_) (fun w1 => ?_)
  · replace hv := hv.1 w1
    refine a_iconst (v := 0) eX7_isOne_19 (by decide) ?_
    refine a_iret eX7_isOne_20 rfl rfl (ret_i ?_)
    refine a_if_eq (tgt := 28) eX7_inks_5 (by decide) (fun _ => ?_) (fun h => absurd h (by decide))
    refine a_ldc eX7_inks_28 kc_X7_73 ?_
    exact a_iret eX7_inks_30 rfl rfl hv
  · replace hv := hv.2 w1
    refine a_iload_n eX7_isOne_4 rfl ?_
    refine a_aload_n eX7_isOne_5 rfl ?_
    refine gX7_2 eX7_isOne_6 fl_X7_28 ?_
    refine gX1_1 ld30 eX7_isOne_9 fl_X7_148 ?_
    refine a_icmp_ge (tgt := 19) eX7_isOne_12 (by decide) (fun w2 => ?_) (fun w2 => ?_)
    · replace hv := hv.1 w2
      refine a_iconst (v := 0) eX7_isOne_19 (by decide) ?_
      refine a_iret eX7_isOne_20 rfl rfl (ret_i ?_)
      refine a_if_eq (tgt := 28) eX7_inks_5 (by decide) (fun _ => ?_) (fun h => absurd h (by decide))
      refine a_ldc eX7_inks_28 kc_X7_73 ?_
      exact a_iret eX7_inks_30 rfl rfl hv
    · replace hv := hv.2 w2
      refine a_iconst (v := 1) eX7_isOne_15 (by decide) ?_
      refine a_goto (tgt := 20) eX7_isOne_16 (by decide) ?_
      refine a_iret eX7_isOne_20 rfl rfl (ret_i ?_)
      refine a_if_eq (tgt := 28) eX7_inks_5 (by decide) (fun h => absurd h (by decide)) (fun _ => ?_)
      refine a_iload_n eX7_inks_8 rfl ?_
      refine a_iconst (v := 1) eX7_inks_9 (by decide) ?_
      refine a_icmp_lt (tgt := 28) eX7_inks_10 (by decide) (fun w3 => ?_) (fun w3 => ?_)
      · replace hv := hv.1 w3
        refine a_ldc eX7_inks_28 kc_X7_73 ?_
        exact a_iret eX7_inks_30 rfl rfl hv
      · replace hv := hv.2 w3
        refine a_iload_n eX7_inks_13 rfl ?_
        refine a_bipush (v := 60) eX7_inks_14 (by decide) ?_
        refine a_icmp_gt (tgt := 28) eX7_inks_16 (by decide) (fun w4 => ?_) (fun w4 => ?_)
        · replace hv := hv.1 w4
          refine a_ldc eX7_inks_28 kc_X7_73 ?_
          exact a_iret eX7_inks_30 rfl rfl hv
        · replace hv := hv.2 w4
          refine a_iload_n eX7_inks_19 rfl ?_
          refine a_if_lt (tgt := 28) eX7_inks_20 (by decide) (fun w5 => ?_) (fun w5 => ?_)
          · replace hv := hv.1 w5
            refine a_ldc eX7_inks_28 kc_X7_73 ?_
            exact a_iret eX7_inks_30 rfl rfl hv
          · replace hv := hv.2 w5
            refine a_iload_n eX7_inks_23 rfl ?_
            refine a_iconst (v := 1) eX7_inks_24 (by decide) ?_
            refine a_icmp_le (tgt := 31) eX7_inks_25 (by decide) (fun w6 => ?_) (fun w6 => ?_)
            · replace hv := hv.1 w6
              refine a_ldc eX7_inks_31 kc_X7_205 ?_
              refine a_istore (vs' := [some (.ref (G.1 0)), some (.int v1), some (.int v2), some (.int v3), some (.int (-1000000005)), none, none]) eX7_inks_33 rfl (Nat.le_of_ble_eq_true rfl) rfl ?_
              refine a_ldc eX7_inks_35 kc_X7_205 ?_
              refine a_istore (vs' := [some (.ref (G.1 0)), some (.int v1), some (.int v2), some (.int v3), some (.int (-1000000005)), some (.int (-1000000005)), none]) eX7_inks_37 rfl (Nat.le_of_ble_eq_true rfl) rfl ?_
              refine a_iconst (v := 0) eX7_inks_39 (by decide) ?_
              refine a_istore (vs' := [some (.ref (G.1 0)), some (.int v1), some (.int v2), some (.int v3), some (.int (-1000000005)), some (.int (-1000000005)), some (.int 0)]) eX7_inks_40 rfl (Nat.le_of_ble_eq_true rfl) rfl ?_
              exact a_weak [true, true, true, true, true, true, true] rfl rfl hv
            · replace hv := hv.2 w6
              refine a_ldc eX7_inks_28 kc_X7_73 ?_
              exact a_iret eX7_inks_30 rfl rfl hv
theorem bX7_inks_42 {l : Launch} {G : GT} {d : Nat} {M : Mem} {R : Option Value → Mem → Prop} {v1 : Int32} {v2 : Int32} {v3 : Int32} {v4 : Int32} {v5 : Int32} {v6 : Int32} (hv : ((M 30 6) ≤ v6 → (v3 = 0 → R (some (.int v4)) M) ∧ (¬ (v3 = 0) → R (some (.int v5)) M)) ∧ (¬ ((M 30 6) ≤ v6) → Tr l G (d + 3) mX1_take [.ref (G.1 40), .ref (G.1 30)] M (kV fun M' => At l G (d + 4) mX7_inks 65 [some (.ref (G.1 0)), some (.int v1), some (.int v2), some (.int v3), some (.int v4), some (.int v5), some (.int v6)] [] M' R))) : At l G (d + 4) mX7_inks 42 [some (.ref (G.1 0)), some (.int v1), some (.int v2), some (.int v3), some (.int v4), some (.int v5), some (.int v6)] [] M R := by
  refine a_iload eX7_inks_42 rfl ?_
  refine a_aload_n eX7_inks_44 rfl ?_
  refine gX7_2 eX7_inks_45 fl_X7_28 ?_
  refine gX1_6 ld30 eX7_inks_48 fl_X7_215 ?_
  refine a_icmp_ge (tgt := 120) eX7_inks_51 (by decide) (fun w1 => ?_) (fun w1 => ?_)
  · replace hv := hv.1 w1
    refine a_iload_n eX7_inks_120 rfl ?_
    refine a_if_ne (tgt := 129) eX7_inks_121 (by decide) (fun w2 => ?_) (fun w2 => ?_)
    · replace hv := hv.2 w2
      refine a_iload eX7_inks_129 rfl ?_
      exact a_iret eX7_inks_131 rfl rfl hv
    · replace hv := hv.1 w2
      refine a_iload eX7_inks_124 rfl ?_
      refine a_goto (tgt := 131) eX7_inks_126 (by decide) ?_
      exact a_iret eX7_inks_131 rfl rfl hv
  · replace hv := hv.2 w1
    refine a_aload_n eX7_inks_54 rfl ?_
    refine gX7_3 eX7_inks_55 fl_X7_32 ?_
    refine a_aload_n eX7_inks_58 rfl ?_
    refine gX7_2 eX7_inks_59 fl_X7_28 ?_
    exact qX7_212 ld40 rfl eX7_inks_62 (Nat.le_of_ble_eq_true rfl) (tr_V [true, true, true, true, true, true, true] rfl rfl hv)
theorem bX7_inks_65 {l : Launch} {G : GT} {d : Nat} {M : Mem} {R : Option Value → Mem → Prop} {v1 : Int32} {v2 : Int32} {v3 : Int32} {v4 : Int32} {v5 : Int32} {v6 : Int32} (hv : vp_in v1 8 ∧ vp_in v1 8 ∧ ∀ M3 : Mem, M3 = um M 44 (ix v1) ((M 44 (ix v1)) ||| ((1 : Int32) <<< (v6 &&& 31))) → Tr l G (d + 3) mX1_passDays [.ref (G.1 40), .int v2] M3 (kV fun M' => At l G (d + 4) mX7_inks 89 [some (.ref (G.1 0)), some (.int v1), some (.int v2), some (.int v3), some (.int v4), some (.int v5), some (.int v6)] [] M' R)) : At l G (d + 4) mX7_inks 65 [some (.ref (G.1 0)), some (.int v1), some (.int v2), some (.int v3), some (.int v4), some (.int v5), some (.int v6)] [] M R := by
  refine a_aload_n eX7_inks_65 rfl ?_
  refine gX7_3 eX7_inks_66 fl_X7_32 ?_
  refine gX1_5 ld40 eX7_inks_69 fl_X7_94 ?_
  refine a_iload_n eX7_inks_72 rfl ?_
  refine a_dup2 eX7_inks_73 rfl rfl ?_
  obtain ⟨h1, hv⟩ := hv
  refine a_iald eX7_inks_74 (ld_8 ld40 4 (by decide)) (ld_in ld40 4 (by decide)) h1 ?_
  refine a_iconst (v := 1) eX7_inks_75 (by decide) ?_
  refine a_iload eX7_inks_76 rfl ?_
  refine a_ishl eX7_inks_78 ?_
  refine a_ior eX7_inks_79 ?_
  obtain ⟨h2, hv⟩ := hv
  refine a_iast eX7_inks_80 (ld_8 ld40 4 (by decide)) (ld_in ld40 4 (by decide)) h2 ?_
  refine a_nm (fun M3 eM3 => ?_)
  replace hv := hv M3 eM3
  refine a_aload_n eX7_inks_81 rfl ?_
  refine gX7_3 eX7_inks_82 fl_X7_32 ?_
  refine a_iload_n eX7_inks_85 rfl ?_
  exact qX7_168 ld40 rfl eX7_inks_86 (Nat.le_of_ble_eq_true rfl) (tr_V [true, true, true, true, true, true, true] rfl rfl hv)
theorem bX7_inks_89 {l : Launch} {G : GT} {d : Nat} {M : Mem} {R : Option Value → Mem → Prop} {v1 : Int32} {v2 : Int32} {v3 : Int32} {v4 : Int32} {v5 : Int32} {v6 : Int32} (hv : ((M 40 13) ≤ v5 → At l G (d + 4) mX7_inks 42 [some (.ref (G.1 0)), some (.int v1), some (.int v2), some (.int v3), some (.int v4), some (.int v5), some (.int (v6 + 1))] [] M R) ∧ (¬ ((M 40 13) ≤ v5) → At l G (d + 4) mX7_inks 42 [some (.ref (G.1 0)), some (.int v1), some (.int v2), some (.int v3), some (.int v6), some (.int (M 40 13)), some (.int (v6 + 1))] [] M R)) : At l G (d + 4) mX7_inks 89 [some (.ref (G.1 0)), some (.int v1), some (.int v2), some (.int v3), some (.int v4), some (.int v5), some (.int v6)] [] M R := by
  refine a_aload_n eX7_inks_89 rfl ?_
  refine gX7_3 eX7_inks_90 fl_X7_32 ?_
  refine gX1_13 ld40 eX7_inks_93 fl_X7_162 ?_
  refine a_iload eX7_inks_96 rfl ?_
  refine a_icmp_le (tgt := 114) eX7_inks_98 (by decide) (fun w1 => ?_) (fun w1 => ?_)
  · replace hv := hv.1 w1
    refine a_iinc (v := 1) (vs' := [some (.ref (G.1 0)), some (.int v1), some (.int v2), some (.int v3), some (.int v4), some (.int v5), some (.int (v6 + 1))]) eX7_inks_114 rfl rfl (by decide) rfl ?_
    refine a_goto (tgt := 42) eX7_inks_117 (by decide) ?_
    exact a_weak [true, true, true, true, true, true, true] rfl rfl hv
  · replace hv := hv.2 w1
    refine a_iload eX7_inks_101 rfl ?_
    refine a_istore (vs' := [some (.ref (G.1 0)), some (.int v1), some (.int v2), some (.int v3), some (.int v6), some (.int v5), some (.int v6)]) eX7_inks_103 rfl (Nat.le_of_ble_eq_true rfl) rfl ?_
    refine a_aload_n eX7_inks_105 rfl ?_
    refine gX7_3 eX7_inks_106 fl_X7_32 ?_
    refine gX1_13 ld40 eX7_inks_109 fl_X7_162 ?_
    refine a_istore (vs' := [some (.ref (G.1 0)), some (.int v1), some (.int v2), some (.int v3), some (.int v6), some (.int (M 40 13)), some (.int v6)]) eX7_inks_112 rfl (Nat.le_of_ble_eq_true rfl) rfl ?_
    refine a_iinc (v := 1) (vs' := [some (.ref (G.1 0)), some (.int v1), some (.int v2), some (.int v3), some (.int v6), some (.int (M 40 13)), some (.int (v6 + 1))]) eX7_inks_114 rfl rfl (by decide) rfl ?_
    refine a_goto (tgt := 42) eX7_inks_117 (by decide) ?_
    exact a_weak [true, true, true, true, true, true, true] rfl rfl hv
theorem tX7_becomes {l : Launch} {G : GT} {d : Nat} {M : Mem} {R : Option Value → Mem → Prop} {v1 : Int32} {v2 : Int32} {v3 : Int32} (hv : (v1 < 0 → R (some (.int (-1000000001))) M) ∧ (¬ (v1 < 0) → ((M 30 1) ≤ v1 → R (some (.int (-1000000001))) M) ∧ (¬ ((M 30 1) ≤ v1) → (v2 < 1 → R (some (.int (-1000000001))) M) ∧ (¬ (v2 < 1) → (60 < v2 → R (some (.int (-1000000001))) M) ∧ (¬ (60 < v2) → (v3 < 0 → R (some (.int (-1000000001))) M) ∧ (¬ (v3 < 0) → (v3 ≤ 1 → At l G (d + 4) mX7_becomes 40 [some (.ref (G.1 0)), some (.int v1), some (.int v2), some (.int v3), some (.int 0), some (.int (-1)), some (.int 0), none] [] M R) ∧ (¬ (v3 ≤ 1) → R (some (.int (-1000000001))) M))))))) : Tr l G (d + 4) mX7_becomes [.ref (G.1 0), .int v1, .int v2, .int v3] M R := by
  refine Tr.of rfl (Nat.le_of_ble_eq_true rfl) (vs := [some (.ref (G.1 0)), some (.int v1), some (.int v2), some (.int v3), none, none, none, none]) rfl ?_
  refine a_aload_n eX7_becomes_0 rfl ?_
  refine a_iload_n eX7_becomes_1 rfl ?_
  refine qX7_82 rfl eX7_becomes_2 (Nat.le_of_ble_eq_true rfl) ?_
  refine Tr.of rfl (Nat.le_of_ble_eq_true rfl) (vs := [some (.ref (G.1 0)), some (.int v1)]) rfl ?_
  refine a_iload_n eX7_isOne_0 rfl ?_
  refine a_if_lt (tgt := 19) eX7_isOne_1 (by decide) (fun w1 => ?_) (fun w1 => ?_)
  · replace hv := hv.1 w1
    refine a_iconst (v := 0) eX7_isOne_19 (by decide) ?_
    refine a_iret eX7_isOne_20 rfl rfl (ret_i ?_)
    refine a_if_eq (tgt := 28) eX7_becomes_5 (by decide) (fun _ => ?_) (fun h => absurd h (by decide))
    refine a_ldc eX7_becomes_28 kc_X7_73 ?_
    exact a_iret eX7_becomes_30 rfl rfl hv
  · replace hv := hv.2 w1
    refine a_iload_n eX7_isOne_4 rfl ?_
    refine a_aload_n eX7_isOne_5 rfl ?_
    refine gX7_2 eX7_isOne_6 fl_X7_28 ?_
    refine gX1_1 ld30 eX7_isOne_9 fl_X7_148 ?_
    refine a_icmp_ge (tgt := 19) eX7_isOne_12 (by decide) (fun w2 => ?_) (fun w2 => ?_)
    · replace hv := hv.1 w2
      refine a_iconst (v := 0) eX7_isOne_19 (by decide) ?_
      refine a_iret eX7_isOne_20 rfl rfl (ret_i ?_)
      refine a_if_eq (tgt := 28) eX7_becomes_5 (by decide) (fun _ => ?_) (fun h => absurd h (by decide))
      refine a_ldc eX7_becomes_28 kc_X7_73 ?_
      exact a_iret eX7_becomes_30 rfl rfl hv
    · replace hv := hv.2 w2
      refine a_iconst (v := 1) eX7_isOne_15 (by decide) ?_
      refine a_goto (tgt := 20) eX7_isOne_16 (by decide) ?_
      refine a_iret eX7_isOne_20 rfl rfl (ret_i ?_)
      refine a_if_eq (tgt := 28) eX7_becomes_5 (by decide) (fun h => absurd h (by decide)) (fun _ => ?_)
      refine a_iload_n eX7_becomes_8 rfl ?_
      refine a_iconst (v := 1) eX7_becomes_9 (by decide) ?_
      refine a_icmp_lt (tgt := 28) eX7_becomes_10 (by decide) (fun w3 => ?_) (fun w3 => ?_)
      · replace hv := hv.1 w3
        refine a_ldc eX7_becomes_28 kc_X7_73 ?_
        exact a_iret eX7_becomes_30 rfl rfl hv
      · replace hv := hv.2 w3
        refine a_iload_n eX7_becomes_13 rfl ?_
        refine a_bipush (v := 60) eX7_becomes_14 (by decide) ?_
        refine a_icmp_gt (tgt := 28) eX7_becomes_16 (by decide) (fun w4 => ?_) (fun w4 => ?_)
        · replace hv := hv.1 w4
          refine a_ldc eX7_becomes_28 kc_X7_73 ?_
          exact a_iret eX7_becomes_30 rfl rfl hv
        · replace hv := hv.2 w4
          refine a_iload_n eX7_becomes_19 rfl ?_
          refine a_if_lt (tgt := 28) eX7_becomes_20 (by decide) (fun w5 => ?_) (fun w5 => ?_)
          · replace hv := hv.1 w5
            refine a_ldc eX7_becomes_28 kc_X7_73 ?_
            exact a_iret eX7_becomes_30 rfl rfl hv
          · replace hv := hv.2 w5
            refine a_iload_n eX7_becomes_23 rfl ?_
            refine a_iconst (v := 1) eX7_becomes_24 (by decide) ?_
            refine a_icmp_le (tgt := 31) eX7_becomes_25 (by decide) (fun w6 => ?_) (fun w6 => ?_)
            · replace hv := hv.1 w6
              refine a_iconst (v := 0) eX7_becomes_31 (by decide) ?_
              refine a_istore (vs' := [some (.ref (G.1 0)), some (.int v1), some (.int v2), some (.int v3), some (.int 0), none, none, none]) eX7_becomes_32 rfl (Nat.le_of_ble_eq_true rfl) rfl ?_
              refine a_iconst (v := (-1)) eX7_becomes_34 (by decide) ?_
              refine a_istore (vs' := [some (.ref (G.1 0)), some (.int v1), some (.int v2), some (.int v3), some (.int 0), some (.int (-1)), none, none]) eX7_becomes_35 rfl (Nat.le_of_ble_eq_true rfl) rfl ?_
              refine a_iconst (v := 0) eX7_becomes_37 (by decide) ?_
              refine a_istore (vs' := [some (.ref (G.1 0)), some (.int v1), some (.int v2), some (.int v3), some (.int 0), some (.int (-1)), some (.int 0), none]) eX7_becomes_38 rfl (Nat.le_of_ble_eq_true rfl) rfl ?_
              exact a_weak [true, true, true, true, true, true, true, false] rfl rfl hv
            · replace hv := hv.2 w6
              refine a_ldc eX7_becomes_28 kc_X7_73 ?_
              exact a_iret eX7_becomes_30 rfl rfl hv
theorem bX7_becomes_40 {l : Launch} {G : GT} {d : Nat} {M : Mem} {R : Option Value → Mem → Prop} {v1 : Int32} {v2 : Int32} {v3 : Int32} {v4 : Int32} {v5 : Int32} {v6 : Int32} (hv : (6 ≤ v6 → (v3 = 0 → R (some (.int v4)) M) ∧ (¬ (v3 = 0) → R (some (.int v5)) M)) ∧ (¬ (6 ≤ v6) → Tr l G (d + 3) mX1_take [.ref (G.1 40), .ref (G.1 30)] M (kV fun M' => At l G (d + 4) mX7_becomes 58 [some (.ref (G.1 0)), some (.int v1), some (.int v2), some (.int v3), some (.int v4), some (.int v5), some (.int v6), none] [] M' R))) : At l G (d + 4) mX7_becomes 40 [some (.ref (G.1 0)), some (.int v1), some (.int v2), some (.int v3), some (.int v4), some (.int v5), some (.int v6), none] [] M R := by
  refine a_iload eX7_becomes_40 rfl ?_
  refine a_bipush (v := 6) eX7_becomes_42 (by decide) ?_
  refine a_icmp_ge (tgt := 107) eX7_becomes_44 (by decide) (fun w1 => ?_) (fun w1 => ?_)
  · replace hv := hv.1 w1
    refine a_iload_n eX7_becomes_107 rfl ?_
    refine a_if_ne (tgt := 116) eX7_becomes_108 (by decide) (fun w2 => ?_) (fun w2 => ?_)
    · replace hv := hv.2 w2
      refine a_iload eX7_becomes_116 rfl ?_
      exact a_iret eX7_becomes_118 rfl rfl hv
    · replace hv := hv.1 w2
      refine a_iload eX7_becomes_111 rfl ?_
      refine a_goto (tgt := 118) eX7_becomes_113 (by decide) ?_
      exact a_iret eX7_becomes_118 rfl rfl hv
  · replace hv := hv.2 w1
    refine a_aload_n eX7_becomes_47 rfl ?_
    refine gX7_3 eX7_becomes_48 fl_X7_32 ?_
    refine a_aload_n eX7_becomes_51 rfl ?_
    refine gX7_2 eX7_becomes_52 fl_X7_28 ?_
    exact qX7_212 ld40 rfl eX7_becomes_55 (Nat.le_of_ble_eq_true rfl) (tr_V [true, true, true, true, true, true, true, false] rfl rfl hv)
theorem bX7_becomes_58 {l : Launch} {G : GT} {d : Nat} {M : Mem} {R : Option Value → Mem → Prop} {v1 : Int32} {v2 : Int32} {v3 : Int32} {v4 : Int32} {v5 : Int32} {v6 : Int32} (hv : vp_in v1 8 ∧ Tr l G (d + 3) mX1_passDays [.ref (G.1 40), .int v2] (um M 41 (ix v1) v6) (kV fun M' => At l G (d + 4) mX7_becomes 77 [some (.ref (G.1 0)), some (.int v1), some (.int v2), some (.int v3), some (.int v4), some (.int v5), some (.int v6), none] [] M' R)) : At l G (d + 4) mX7_becomes 58 [some (.ref (G.1 0)), some (.int v1), some (.int v2), some (.int v3), some (.int v4), some (.int v5), some (.int v6), none] [] M R := by
  refine a_aload_n eX7_becomes_58 rfl ?_
  refine gX7_3 eX7_becomes_59 fl_X7_32 ?_
  refine gX1_2 ld40 eX7_becomes_62 fl_X7_85 ?_
  refine a_iload_n eX7_becomes_65 rfl ?_
  refine a_iload eX7_becomes_66 rfl ?_
  obtain ⟨h1, hv⟩ := hv
  refine a_iast eX7_becomes_68 (ld_8 ld40 1 (by decide)) (ld_in ld40 1 (by decide)) h1 ?_
  refine a_aload_n eX7_becomes_69 rfl ?_
  refine gX7_3 eX7_becomes_70 fl_X7_32 ?_
  refine a_iload_n eX7_becomes_73 rfl ?_
  exact qX7_168 ld40 rfl eX7_becomes_74 (Nat.le_of_ble_eq_true rfl) (tr_V [true, true, true, true, true, true, true, false] rfl rfl hv)
theorem bX7_becomes_77 {l : Launch} {G : GT} {d : Nat} {M : Mem} {R : Option Value → Mem → Prop} {v1 : Int32} {v2 : Int32} {v3 : Int32} {v4 : Int32} {v5 : Int32} {v6 : Int32} (hv : Tr l G (d + 3) mX1_waysBorne [.ref (G.1 40)] M (kI fun q M' => At l G (d + 4) mX7_becomes 84 [some (.ref (G.1 0)), some (.int v1), some (.int v2), some (.int v3), some (.int v4), some (.int v5), some (.int v6), none] [.int q] M' R)) : At l G (d + 4) mX7_becomes 77 [some (.ref (G.1 0)), some (.int v1), some (.int v2), some (.int v3), some (.int v4), some (.int v5), some (.int v6), none] [] M R := by
  refine a_aload_n eX7_becomes_77 rfl ?_
  refine gX7_3 eX7_becomes_78 fl_X7_32 ?_
  exact qX7_178 ld40 rfl eX7_becomes_81 (Nat.le_of_ble_eq_true rfl) (tr_I [true, true, true, true, true, true, true, false] rfl rfl hv)
theorem bX7_becomes_84 {l : Launch} {G : GT} {d : Nat} {M : Mem} {R : Option Value → Mem → Prop} {v1 : Int32} {v2 : Int32} {v3 : Int32} {v4 : Int32} {v5 : Int32} {v6 : Int32} {r : Int32} (hv : (r ≤ v5 → At l G (d + 4) mX7_becomes 40 [some (.ref (G.1 0)), some (.int v1), some (.int v2), some (.int v3), some (.int v4), some (.int v5), some (.int (v6 + 1)), none] [] M R) ∧ (¬ (r ≤ v5) → At l G (d + 4) mX7_becomes 40 [some (.ref (G.1 0)), some (.int v1), some (.int v2), some (.int v3), some (.int v6), some (.int r), some (.int (v6 + 1)), none] [] M R)) : At l G (d + 4) mX7_becomes 84 [some (.ref (G.1 0)), some (.int v1), some (.int v2), some (.int v3), some (.int v4), some (.int v5), some (.int v6), none] [.int r] M R := by
  refine a_istore (vs' := [some (.ref (G.1 0)), some (.int v1), some (.int v2), some (.int v3), some (.int v4), some (.int v5), some (.int v6), some (.int r)]) eX7_becomes_84 rfl (Nat.le_of_ble_eq_true rfl) rfl ?_
  refine a_iload eX7_becomes_86 rfl ?_
  refine a_iload eX7_becomes_88 rfl ?_
  refine a_icmp_le (tgt := 101) eX7_becomes_90 (by decide) (fun w1 => ?_) (fun w1 => ?_)
  · replace hv := hv.1 w1
    refine a_iinc (v := 1) (vs' := [some (.ref (G.1 0)), some (.int v1), some (.int v2), some (.int v3), some (.int v4), some (.int v5), some (.int (v6 + 1)), some (.int r)]) eX7_becomes_101 rfl rfl (by decide) rfl ?_
    refine a_goto (tgt := 40) eX7_becomes_104 (by decide) ?_
    exact a_weak [true, true, true, true, true, true, true, false] rfl rfl hv
  · replace hv := hv.2 w1
    refine a_iload eX7_becomes_93 rfl ?_
    refine a_istore (vs' := [some (.ref (G.1 0)), some (.int v1), some (.int v2), some (.int v3), some (.int v6), some (.int v5), some (.int v6), some (.int r)]) eX7_becomes_95 rfl (Nat.le_of_ble_eq_true rfl) rfl ?_
    refine a_iload eX7_becomes_97 rfl ?_
    refine a_istore (vs' := [some (.ref (G.1 0)), some (.int v1), some (.int v2), some (.int v3), some (.int v6), some (.int r), some (.int v6), some (.int r)]) eX7_becomes_99 rfl (Nat.le_of_ble_eq_true rfl) rfl ?_
    refine a_iinc (v := 1) (vs' := [some (.ref (G.1 0)), some (.int v1), some (.int v2), some (.int v3), some (.int v6), some (.int r), some (.int (v6 + 1)), some (.int r)]) eX7_becomes_101 rfl rfl (by decide) rfl ?_
    refine a_goto (tgt := 40) eX7_becomes_104 (by decide) ?_
    exact a_weak [true, true, true, true, true, true, true, false] rfl rfl hv
theorem tX7_like {l : Launch} {G : GT} {d : Nat} {M : Mem} {R : Option Value → Mem → Prop} {v1 : Int32} {v2 : Int32} (hv : (v1 < 0 → R (some (.int (-1000000001))) M) ∧ (¬ (v1 < 0) → (4 ≤ v1 → R (some (.int (-1000000001))) M) ∧ (¬ (4 ≤ v1) → (v2 < 0 → R (some (.int (-1000000001))) M) ∧ (¬ (v2 < 0) → (v2 ≤ 1 → vp_in v1 4 ∧ ((M (70 + 2 * ix v1) 0) = (-1) → R (some (.int (-1000000011))) M) ∧ (¬ ((M (70 + 2 * ix v1) 0) = (-1)) → ((M 30 1) = 0 → R (some (.int (-1000000005))) M) ∧ (¬ ((M 30 1) = 0) → vp_in v1 4 ∧ Tr l G (d + 3) mX7_countAlike [.ref (G.1 0), .ref (G.1 (70 + 2 * ix v1))] M (kV fun M' => At l G (d + 4) mX7_like 57 [some (.ref (G.1 0)), none, some (.int v2), none, none] [] M' R)))) ∧ (¬ (v2 ≤ 1) → R (some (.int (-1000000001))) M))))) : Tr l G (d + 4) mX7_like [.ref (G.1 0), .int v1, .int v2] M R := by
  refine Tr.of rfl (Nat.le_of_ble_eq_true rfl) (vs := [some (.ref (G.1 0)), some (.int v1), some (.int v2), none, none]) rfl ?_
  refine a_iload_n eX7_like_0 rfl ?_
  refine qX7_218 rfl eX7_like_1 (Nat.le_of_ble_eq_true rfl) ?_
  refine Tr.of rfl (Nat.le_of_ble_eq_true rfl) (vs := [some (.int v1)]) rfl ?_
  refine a_iload_n eX7_isSheet_0 rfl ?_
  refine a_if_lt (tgt := 13) eX7_isSheet_1 (by decide) (fun w1 => ?_) (fun w1 => ?_)
  · replace hv := hv.1 w1
    refine a_iconst (v := 0) eX7_isSheet_13 (by decide) ?_
    refine a_iret eX7_isSheet_14 rfl rfl (ret_i ?_)
    refine a_if_eq (tgt := 16) eX7_like_4 (by decide) (fun _ => ?_) (fun h => absurd h (by decide))
    refine a_ldc eX7_like_16 kc_X7_73 ?_
    exact a_iret eX7_like_18 rfl rfl hv
  · replace hv := hv.2 w1
    refine a_iload_n eX7_isSheet_4 rfl ?_
    refine a_iconst (v := 4) eX7_isSheet_5 (by decide) ?_
    refine a_icmp_ge (tgt := 13) eX7_isSheet_6 (by decide) (fun w2 => ?_) (fun w2 => ?_)
    · replace hv := hv.1 w2
      refine a_iconst (v := 0) eX7_isSheet_13 (by decide) ?_
      refine a_iret eX7_isSheet_14 rfl rfl (ret_i ?_)
      refine a_if_eq (tgt := 16) eX7_like_4 (by decide) (fun _ => ?_) (fun h => absurd h (by decide))
      refine a_ldc eX7_like_16 kc_X7_73 ?_
      exact a_iret eX7_like_18 rfl rfl hv
    · replace hv := hv.2 w2
      refine a_iconst (v := 1) eX7_isSheet_9 (by decide) ?_
      refine a_goto (tgt := 14) eX7_isSheet_10 (by decide) ?_
      refine a_iret eX7_isSheet_14 rfl rfl (ret_i ?_)
      refine a_if_eq (tgt := 16) eX7_like_4 (by decide) (fun h => absurd h (by decide)) (fun _ => ?_)
      refine a_iload_n eX7_like_7 rfl ?_
      refine a_if_lt (tgt := 16) eX7_like_8 (by decide) (fun w3 => ?_) (fun w3 => ?_)
      · replace hv := hv.1 w3
        refine a_ldc eX7_like_16 kc_X7_73 ?_
        exact a_iret eX7_like_18 rfl rfl hv
      · replace hv := hv.2 w3
        refine a_iload_n eX7_like_11 rfl ?_
        refine a_iconst (v := 1) eX7_like_12 (by decide) ?_
        refine a_icmp_le (tgt := 19) eX7_like_13 (by decide) (fun w4 => ?_) (fun w4 => ?_)
        · replace hv := hv.1 w4
          refine a_aload_n eX7_like_19 rfl ?_
          refine gX7_8 eX7_like_20 fl_X7_54 ?_
          refine a_iload_n eX7_like_23 rfl ?_
          obtain ⟨h5, hv⟩ := hv
          refine a_aald_sheets eX7_like_24 h5 ?_
          refine qX7_221 (sht_is (vp_lt h5)) rfl eX7_like_25 (Nat.le_of_ble_eq_true rfl) ?_
          refine Tr.of rfl (Nat.le_of_ble_eq_true rfl) (vs := [some (.ref (G.1 (70 + 2 * ix v1)))]) rfl ?_
          refine a_aload_n eX3_isMissing_0 rfl ?_
          refine gX3_0 (sht_is (vp_lt h5)) eX3_isMissing_1 fl_X3_9 ?_
          refine a_iconst (v := (-1)) eX3_isMissing_4 (by decide) ?_
          refine a_icmp_ne (tgt := 12) eX3_isMissing_5 (by decide) (fun w6 => ?_) (fun w6 => ?_)
          · replace hv := hv.2 w6
            refine a_iconst (v := 0) eX3_isMissing_12 (by decide) ?_
            refine a_iret eX3_isMissing_13 rfl rfl (ret_i ?_)
            refine a_if_eq (tgt := 34) eX7_like_28 (by decide) (fun _ => ?_) (fun h => absurd h (by decide))
            refine a_aload_n eX7_like_34 rfl ?_
            refine gX7_2 eX7_like_35 fl_X7_28 ?_
            refine gX1_1 ld30 eX7_like_38 fl_X7_148 ?_
            refine a_if_ne (tgt := 47) eX7_like_41 (by decide) (fun w7 => ?_) (fun w7 => ?_)
            · replace hv := hv.2 w7
              refine a_aload_n eX7_like_47 rfl ?_
              refine a_aload_n eX7_like_48 rfl ?_
              refine gX7_8 eX7_like_49 fl_X7_54 ?_
              refine a_iload_n eX7_like_52 rfl ?_
              obtain ⟨h8, hv⟩ := hv
              refine a_aald_sheets eX7_like_53 h8 ?_
              exact qX7_226 rfl eX7_like_54 (Nat.le_of_ble_eq_true rfl) (tr_V [true, false, true, false, false] rfl rfl hv)
            · replace hv := hv.1 w7
              refine a_ldc eX7_like_44 kc_X7_205 ?_
              exact a_iret eX7_like_46 rfl rfl hv
          · replace hv := hv.1 w6
            refine a_iconst (v := 1) eX3_isMissing_8 (by decide) ?_
            refine a_goto (tgt := 13) eX3_isMissing_9 (by decide) ?_
            refine a_iret eX3_isMissing_13 rfl rfl (ret_i ?_)
            refine a_if_eq (tgt := 34) eX7_like_28 (by decide) (fun h => absurd h (by decide)) (fun _ => ?_)
            refine a_ldc eX7_like_31 kc_X7_225 ?_
            exact a_iret eX7_like_33 rfl rfl hv
        · replace hv := hv.2 w4
          refine a_ldc eX7_like_16 kc_X7_73 ?_
          exact a_iret eX7_like_18 rfl rfl hv
theorem bX7_like_57 {l : Launch} {G : GT} {d : Nat} {M : Mem} {R : Option Value → Mem → Prop} {v2 : Int32} (hv : At l G (d + 4) mX7_like 62 [some (.ref (G.1 0)), none, some (.int v2), some (.int 0), some (.int 1)] [] M R) : At l G (d + 4) mX7_like 57 [some (.ref (G.1 0)), none, some (.int v2), none, none] [] M R := by
  refine a_iconst (v := 0) eX7_like_57 (by decide) ?_
  refine a_istore_n (vs' := [some (.ref (G.1 0)), none, some (.int v2), some (.int 0), none]) eX7_like_58 rfl (Nat.le_of_ble_eq_true rfl) rfl ?_
  refine a_iconst (v := 1) eX7_like_59 (by decide) ?_
  refine a_istore (vs' := [some (.ref (G.1 0)), none, some (.int v2), some (.int 0), some (.int 1)]) eX7_like_60 rfl (Nat.le_of_ble_eq_true rfl) rfl ?_
  exact a_weak [true, false, true, true, true] rfl rfl hv
theorem bX7_like_62 {l : Launch} {G : GT} {d : Nat} {M : Mem} {R : Option Value → Mem → Prop} {v2 : Int32} {v3 : Int32} {v4 : Int32} (hv : ((M 30 1) ≤ v4 → (v2 = 0 → R (some (.int v3)) M) ∧ (¬ (v2 = 0) → vp_in v3 8 ∧ R (some (.int (M 62 (ix v3)))) M)) ∧ (¬ ((M 30 1) ≤ v4) → vp_in v4 8 ∧ vp_in v3 8 ∧ ((M 62 (ix v4)) ≤ (M 62 (ix v3)) → At l G (d + 4) mX7_like 62 [some (.ref (G.1 0)), none, some (.int v2), some (.int v3), some (.int (v4 + 1))] [] M R) ∧ (¬ ((M 62 (ix v4)) ≤ (M 62 (ix v3))) → At l G (d + 4) mX7_like 62 [some (.ref (G.1 0)), none, some (.int v2), some (.int v4), some (.int (v4 + 1))] [] M R))) : At l G (d + 4) mX7_like 62 [some (.ref (G.1 0)), none, some (.int v2), some (.int v3), some (.int v4)] [] M R := by
  refine a_iload eX7_like_62 rfl ?_
  refine a_aload_n eX7_like_64 rfl ?_
  refine gX7_2 eX7_like_65 fl_X7_28 ?_
  refine gX1_1 ld30 eX7_like_68 fl_X7_148 ?_
  refine a_icmp_ge (tgt := 99) eX7_like_71 (by decide) (fun w1 => ?_) (fun w1 => ?_)
  · replace hv := hv.1 w1
    refine a_iload_n eX7_like_99 rfl ?_
    refine a_if_ne (tgt := 107) eX7_like_100 (by decide) (fun w2 => ?_) (fun w2 => ?_)
    · replace hv := hv.2 w2
      refine a_aload_n eX7_like_107 rfl ?_
      refine gX7_7 eX7_like_108 fl_X7_45 ?_
      refine a_iload_n eX7_like_111 rfl ?_
      obtain ⟨h3, hv⟩ := hv
      refine a_iald eX7_like_112 sA62 kA62 h3 ?_
      exact a_iret eX7_like_113 rfl rfl hv
    · replace hv := hv.1 w2
      refine a_iload_n eX7_like_103 rfl ?_
      refine a_goto (tgt := 113) eX7_like_104 (by decide) ?_
      exact a_iret eX7_like_113 rfl rfl hv
  · replace hv := hv.2 w1
    refine a_aload_n eX7_like_74 rfl ?_
    refine gX7_7 eX7_like_75 fl_X7_45 ?_
    refine a_iload eX7_like_78 rfl ?_
    obtain ⟨h4, hv⟩ := hv
    refine a_iald eX7_like_80 sA62 kA62 h4 ?_
    refine a_aload_n eX7_like_81 rfl ?_
    refine gX7_7 eX7_like_82 fl_X7_45 ?_
    refine a_iload_n eX7_like_85 rfl ?_
    obtain ⟨h5, hv⟩ := hv
    refine a_iald eX7_like_86 sA62 kA62 h5 ?_
    refine a_icmp_le (tgt := 93) eX7_like_87 (by decide) (fun w6 => ?_) (fun w6 => ?_)
    · replace hv := hv.1 w6
      refine a_iinc (v := 1) (vs' := [some (.ref (G.1 0)), none, some (.int v2), some (.int v3), some (.int (v4 + 1))]) eX7_like_93 rfl rfl (by decide) rfl ?_
      refine a_goto (tgt := 62) eX7_like_96 (by decide) ?_
      exact a_weak [true, false, true, true, true] rfl rfl hv
    · replace hv := hv.2 w6
      refine a_iload eX7_like_90 rfl ?_
      refine a_istore_n (vs' := [some (.ref (G.1 0)), none, some (.int v2), some (.int v4), some (.int v4)]) eX7_like_92 rfl (Nat.le_of_ble_eq_true rfl) rfl ?_
      refine a_iinc (v := 1) (vs' := [some (.ref (G.1 0)), none, some (.int v2), some (.int v4), some (.int (v4 + 1))]) eX7_like_93 rfl rfl (by decide) rfl ?_
      refine a_goto (tgt := 62) eX7_like_96 (by decide) ?_
      exact a_weak [true, false, true, true, true] rfl rfl hv
theorem tX7_countAlike {l : Launch} {G : GT} {d : Nat} {M : Mem} {R : Option Value → Mem → Prop} {a1 : Nat} (ha1 : IsSh a1) (hv : At l G (d + 4) mX7_countAlike 2 [some (.ref (G.1 0)), some (.ref (G.1 a1)), some (.int 0), none] [] M R) : Tr l G (d + 4) mX7_countAlike [.ref (G.1 0), .ref (G.1 a1)] M R := by
  refine Tr.of rfl (Nat.le_of_ble_eq_true rfl) (vs := [some (.ref (G.1 0)), some (.ref (G.1 a1)), none, none]) rfl ?_
  refine a_iconst (v := 0) eX7_countAlike_0 (by decide) ?_
  refine a_istore_n (vs' := [some (.ref (G.1 0)), some (.ref (G.1 a1)), some (.int 0), none]) eX7_countAlike_1 rfl (Nat.le_of_ble_eq_true rfl) rfl ?_
  exact a_weak [true, true, true, false] rfl rfl hv
theorem bX7_countAlike_2 {l : Launch} {G : GT} {d : Nat} {M : Mem} {R : Option Value → Mem → Prop} {a1 : Nat} (ha1 : IsSh a1) {v2 : Int32} (hv : (8 ≤ v2 → Tr l G (d + 3) mX1_take [.ref (G.1 40), .ref (G.1 30)] M (kV fun M' => At l G (d + 4) mX7_countAlike 32 [some (.ref (G.1 0)), some (.ref (G.1 a1)), none, none] [] M' R)) ∧ (¬ (8 ≤ v2) → vp_in v2 8 ∧ At l G (d + 4) mX7_countAlike 2 [some (.ref (G.1 0)), some (.ref (G.1 a1)), some (.int (v2 + 1)), none] [] (um M 62 (ix v2) 0) R)) : At l G (d + 4) mX7_countAlike 2 [some (.ref (G.1 0)), some (.ref (G.1 a1)), some (.int v2), none] [] M R := by
  refine a_iload_n eX7_countAlike_2 rfl ?_
  refine a_bipush (v := 8) eX7_countAlike_3 (by decide) ?_
  refine a_icmp_ge (tgt := 21) eX7_countAlike_5 (by decide) (fun w1 => ?_) (fun w1 => ?_)
  · replace hv := hv.1 w1
    refine a_aload_n eX7_countAlike_21 rfl ?_
    refine gX7_3 eX7_countAlike_22 fl_X7_32 ?_
    refine a_aload_n eX7_countAlike_25 rfl ?_
    refine gX7_2 eX7_countAlike_26 fl_X7_28 ?_
    exact qX7_212 ld40 rfl eX7_countAlike_29 (Nat.le_of_ble_eq_true rfl) (tr_V [true, true, false, false] rfl rfl hv)
  · replace hv := hv.2 w1
    refine a_aload_n eX7_countAlike_8 rfl ?_
    refine gX7_7 eX7_countAlike_9 fl_X7_45 ?_
    refine a_iload_n eX7_countAlike_12 rfl ?_
    refine a_iconst (v := 0) eX7_countAlike_13 (by decide) ?_
    obtain ⟨h2, hv⟩ := hv
    refine a_iast eX7_countAlike_14 sA62 kA62 h2 ?_
    refine a_iinc (v := 1) (vs' := [some (.ref (G.1 0)), some (.ref (G.1 a1)), some (.int (v2 + 1)), none]) eX7_countAlike_15 rfl rfl (by decide) rfl ?_
    refine a_goto (tgt := 2) eX7_countAlike_18 (by decide) ?_
    exact a_weak [true, true, true, false] rfl rfl hv
theorem bX7_countAlike_32 {l : Launch} {G : GT} {d : Nat} {M : Mem} {R : Option Value → Mem → Prop} {a1 : Nat} (ha1 : IsSh a1) (hv : At l G (d + 4) mX7_countAlike 34 [some (.ref (G.1 0)), some (.ref (G.1 a1)), some (.int 0), none] [] M R) : At l G (d + 4) mX7_countAlike 32 [some (.ref (G.1 0)), some (.ref (G.1 a1)), none, none] [] M R := by
  refine a_iconst (v := 0) eX7_countAlike_32 (by decide) ?_
  refine a_istore_n (vs' := [some (.ref (G.1 0)), some (.ref (G.1 a1)), some (.int 0), none]) eX7_countAlike_33 rfl (Nat.le_of_ble_eq_true rfl) rfl ?_
  exact a_weak [true, true, true, false] rfl rfl hv
theorem bX7_countAlike_34 {l : Launch} {G : GT} {d : Nat} {M : Mem} {R : Option Value → Mem → Prop} {a1 : Nat} (ha1 : IsSh a1) {v2 : Int32} (hv : ((M a1 1) ≤ v2 → R none M) ∧ (¬ ((M a1 1) ≤ v2) → (v2 ≤ 0 → At l G (d + 4) mX7_countAlike 56 [some (.ref (G.1 0)), some (.ref (G.1 a1)), some (.int v2), some (.int 0)] [] M R) ∧ (¬ (v2 ≤ 0) → Tr l G (d + 3) mX1_passDays [.ref (G.1 40), .int 1] M (kV fun M' => At l G (d + 4) mX7_countAlike 54 [some (.ref (G.1 0)), some (.ref (G.1 a1)), some (.int v2), none] [] M' R)))) : At l G (d + 4) mX7_countAlike 34 [some (.ref (G.1 0)), some (.ref (G.1 a1)), some (.int v2), none] [] M R := by
  refine a_iload_n eX7_countAlike_34 rfl ?_
  refine a_aload_n eX7_countAlike_35 rfl ?_
  refine gX3_1 ha1 eX7_countAlike_36 fl_X7_230 ?_
  refine a_icmp_ge (tgt := 115) eX7_countAlike_39 (by decide) (fun w1 => ?_) (fun w1 => ?_)
  · replace hv := hv.1 w1
    exact a_vret eX7_countAlike_115 rfl hv
  · replace hv := hv.2 w1
    refine a_iload_n eX7_countAlike_42 rfl ?_
    refine a_if_le (tgt := 54) eX7_countAlike_43 (by decide) (fun w2 => ?_) (fun w2 => ?_)
    · replace hv := hv.1 w2
      refine a_iconst (v := 0) eX7_countAlike_54 (by decide) ?_
      refine a_istore_n (vs' := [some (.ref (G.1 0)), some (.ref (G.1 a1)), some (.int v2), some (.int 0)]) eX7_countAlike_55 rfl (Nat.le_of_ble_eq_true rfl) rfl ?_
      exact a_weak [true, true, true, true] rfl rfl hv
    · replace hv := hv.2 w2
      refine a_aload_n eX7_countAlike_46 rfl ?_
      refine gX7_3 eX7_countAlike_47 fl_X7_32 ?_
      refine a_iconst (v := 1) eX7_countAlike_50 (by decide) ?_
      exact qX7_168 ld40 rfl eX7_countAlike_51 (Nat.le_of_ble_eq_true rfl) (tr_V [true, true, true, false] rfl rfl hv)
theorem bX7_countAlike_54 {l : Launch} {G : GT} {d : Nat} {M : Mem} {R : Option Value → Mem → Prop} {a1 : Nat} (ha1 : IsSh a1) {v2 : Int32} (hv : At l G (d + 4) mX7_countAlike 56 [some (.ref (G.1 0)), some (.ref (G.1 a1)), some (.int v2), some (.int 0)] [] M R) : At l G (d + 4) mX7_countAlike 54 [some (.ref (G.1 0)), some (.ref (G.1 a1)), some (.int v2), none] [] M R := by
  refine a_iconst (v := 0) eX7_countAlike_54 (by decide) ?_
  refine a_istore_n (vs' := [some (.ref (G.1 0)), some (.ref (G.1 a1)), some (.int v2), some (.int 0)]) eX7_countAlike_55 rfl (Nat.le_of_ble_eq_true rfl) rfl ?_
  exact a_weak [true, true, true, true] rfl rfl hv
theorem bX7_countAlike_56 {l : Launch} {G : GT} {d : Nat} {M : Mem} {R : Option Value → Mem → Prop} {a1 : Nat} (ha1 : IsSh a1) {v2 : Int32} {v3 : Int32} (hv : ((M 30 1) ≤ v3 → At l G (d + 4) mX7_countAlike 34 [some (.ref (G.1 0)), some (.ref (G.1 a1)), some (.int (v2 + 1)), none] [] M R) ∧ (¬ ((M 30 1) ≤ v3) → (v2 < 0 → At l G (d + 4) mX7_countAlike 56 [some (.ref (G.1 0)), some (.ref (G.1 a1)), some (.int v2), some (.int (v3 + 1))] [] M R) ∧ (¬ (v2 < 0) → ((M a1 1) ≤ v2 → At l G (d + 4) mX7_countAlike 56 [some (.ref (G.1 0)), some (.ref (G.1 a1)), some (.int v2), some (.int (v3 + 1))] [] M R) ∧ (¬ ((M a1 1) ≤ v2) → vp_in v2 24 ∧ ((M (a1 + 1) (ix v2)) = (-1000000005) → At l G (d + 4) mX7_countAlike 56 [some (.ref (G.1 0)), some (.ref (G.1 a1)), some (.int v2), some (.int (v3 + 1))] [] M R) ∧ (¬ ((M (a1 + 1) (ix v2)) = (-1000000005)) → vp_in v2 24 ∧ vp_in v3 8 ∧ ((M (a1 + 1) (ix v2)) = (M 42 (ix v3)) → vp_in v3 8 ∧ vp_in v3 8 ∧ At l G (d + 4) mX7_countAlike 56 [some (.ref (G.1 0)), some (.ref (G.1 a1)), some (.int v2), some (.int (v3 + 1))] [] (um M 62 (ix v3) ((M 62 (ix v3)) + 1)) R) ∧ (¬ ((M (a1 + 1) (ix v2)) = (M 42 (ix v3))) → At l G (d + 4) mX7_countAlike 56 [some (.ref (G.1 0)), some (.ref (G.1 a1)), some (.int v2), some (.int (v3 + 1))] [] M R)))))) : At l G (d + 4) mX7_countAlike 56 [some (.ref (G.1 0)), some (.ref (G.1 a1)), some (.int v2), some (.int v3)] [] M R := by
  refine a_iload_n eX7_countAlike_56 rfl ?_
  refine a_aload_n eX7_countAlike_57 rfl ?_
  refine gX7_2 eX7_countAlike_58 fl_X7_28 ?_
  refine gX1_1 ld30 eX7_countAlike_61 fl_X7_148 ?_
  refine a_icmp_ge (tgt := 109) eX7_countAlike_64 (by decide) (fun w1 => ?_) (fun w1 => ?_)
  · replace hv := hv.1 w1
    refine a_iinc (v := 1) (vs' := [some (.ref (G.1 0)), some (.ref (G.1 a1)), some (.int (v2 + 1)), some (.int v3)]) eX7_countAlike_109 rfl rfl (by decide) rfl ?_
    refine a_goto (tgt := 34) eX7_countAlike_112 (by decide) ?_
    exact a_weak [true, true, true, false] rfl rfl hv
  · replace hv := hv.2 w1
    refine a_aload_n eX7_countAlike_67 rfl ?_
    refine a_iload_n eX7_countAlike_68 rfl ?_
    refine qX7_233 ha1 rfl eX7_countAlike_69 (Nat.le_of_ble_eq_true rfl) ?_
    refine Tr.of rfl (Nat.le_of_ble_eq_true rfl) (vs := [some (.ref (G.1 a1)), some (.int v2)]) rfl ?_
    refine a_aload_n eX3_isNumber_0 rfl ?_
    refine a_iload_n eX3_isNumber_1 rfl ?_
    refine qX3_22 ha1 rfl eX3_isNumber_2 (Nat.le_of_ble_eq_true rfl) ?_
    refine Tr.of rfl (Nat.le_of_ble_eq_true rfl) (vs := [some (.ref (G.1 a1)), some (.int v2)]) rfl ?_
    refine a_iload_n eX3_hasPlace_0 rfl ?_
    refine a_if_lt (tgt := 16) eX3_hasPlace_1 (by decide) (fun w2 => ?_) (fun w2 => ?_)
    · replace hv := hv.1 w2
      refine a_iconst (v := 0) eX3_hasPlace_16 (by decide) ?_
      refine a_iret eX3_hasPlace_17 rfl rfl (ret_i ?_)
      refine a_if_eq (tgt := 23) eX3_isNumber_5 (by decide) (fun _ => ?_) (fun h => absurd h (by decide))
      refine a_iconst (v := 0) eX3_isNumber_23 (by decide) ?_
      refine a_iret eX3_isNumber_24 rfl rfl (ret_i ?_)
      refine a_if_eq (tgt := 103) eX7_countAlike_72 (by decide) (fun _ => ?_) (fun h => absurd h (by decide))
      refine a_iinc (v := 1) (vs' := [some (.ref (G.1 0)), some (.ref (G.1 a1)), some (.int v2), some (.int (v3 + 1))]) eX7_countAlike_103 rfl rfl (by decide) rfl ?_
      refine a_goto (tgt := 56) eX7_countAlike_106 (by decide) ?_
      exact a_weak [true, true, true, true] rfl rfl hv
    · replace hv := hv.2 w2
      refine a_iload_n eX3_hasPlace_4 rfl ?_
      refine a_aload_n eX3_hasPlace_5 rfl ?_
      refine gX3_1 ha1 eX3_hasPlace_6 fl_X3_19 ?_
      refine a_icmp_ge (tgt := 16) eX3_hasPlace_9 (by decide) (fun w3 => ?_) (fun w3 => ?_)
      · replace hv := hv.1 w3
        refine a_iconst (v := 0) eX3_hasPlace_16 (by decide) ?_
        refine a_iret eX3_hasPlace_17 rfl rfl (ret_i ?_)
        refine a_if_eq (tgt := 23) eX3_isNumber_5 (by decide) (fun _ => ?_) (fun h => absurd h (by decide))
        refine a_iconst (v := 0) eX3_isNumber_23 (by decide) ?_
        refine a_iret eX3_isNumber_24 rfl rfl (ret_i ?_)
        refine a_if_eq (tgt := 103) eX7_countAlike_72 (by decide) (fun _ => ?_) (fun h => absurd h (by decide))
        refine a_iinc (v := 1) (vs' := [some (.ref (G.1 0)), some (.ref (G.1 a1)), some (.int v2), some (.int (v3 + 1))]) eX7_countAlike_103 rfl rfl (by decide) rfl ?_
        refine a_goto (tgt := 56) eX7_countAlike_106 (by decide) ?_
        exact a_weak [true, true, true, true] rfl rfl hv
      · replace hv := hv.2 w3
        refine a_iconst (v := 1) eX3_hasPlace_12 (by decide) ?_
        refine a_goto (tgt := 17) eX3_hasPlace_13 (by decide) ?_
        refine a_iret eX3_hasPlace_17 rfl rfl (ret_i ?_)
        refine a_if_eq (tgt := 23) eX3_isNumber_5 (by decide) (fun h => absurd h (by decide)) (fun _ => ?_)
        refine a_aload_n eX3_isNumber_8 rfl ?_
        refine gX3_2 ha1 eX3_isNumber_9 fl_X3_15 ?_
        refine a_iload_n eX3_isNumber_12 rfl ?_
        obtain ⟨h4, hv⟩ := hv
        refine a_iald eX3_isNumber_13 (sh_1 ha1) (sh_in1 ha1) h4 ?_
        refine a_ldc eX3_isNumber_14 kc_X3_26 ?_
        refine a_icmp_eq (tgt := 23) eX3_isNumber_16 (by decide) (fun w5 => ?_) (fun w5 => ?_)
        · replace hv := hv.1 w5
          refine a_iconst (v := 0) eX3_isNumber_23 (by decide) ?_
          refine a_iret eX3_isNumber_24 rfl rfl (ret_i ?_)
          refine a_if_eq (tgt := 103) eX7_countAlike_72 (by decide) (fun _ => ?_) (fun h => absurd h (by decide))
          refine a_iinc (v := 1) (vs' := [some (.ref (G.1 0)), some (.ref (G.1 a1)), some (.int v2), some (.int (v3 + 1))]) eX7_countAlike_103 rfl rfl (by decide) rfl ?_
          refine a_goto (tgt := 56) eX7_countAlike_106 (by decide) ?_
          exact a_weak [true, true, true, true] rfl rfl hv
        · replace hv := hv.2 w5
          refine a_iconst (v := 1) eX3_isNumber_19 (by decide) ?_
          refine a_goto (tgt := 24) eX3_isNumber_20 (by decide) ?_
          refine a_iret eX3_isNumber_24 rfl rfl (ret_i ?_)
          refine a_if_eq (tgt := 103) eX7_countAlike_72 (by decide) (fun h => absurd h (by decide)) (fun _ => ?_)
          refine a_aload_n eX7_countAlike_75 rfl ?_
          refine gX3_2 ha1 eX7_countAlike_76 fl_X7_236 ?_
          refine a_iload_n eX7_countAlike_79 rfl ?_
          obtain ⟨h6, hv⟩ := hv
          refine a_iald eX7_countAlike_80 (sh_1 ha1) (sh_in1 ha1) h6 ?_
          refine a_aload_n eX7_countAlike_81 rfl ?_
          refine gX7_3 eX7_countAlike_82 fl_X7_32 ?_
          refine gX1_3 ld40 eX7_countAlike_85 fl_X7_88 ?_
          refine a_iload_n eX7_countAlike_88 rfl ?_
          obtain ⟨h7, hv⟩ := hv
          refine a_iald eX7_countAlike_89 (ld_8 ld40 2 (by decide)) (ld_in ld40 2 (by decide)) h7 ?_
          refine a_icmp_ne (tgt := 103) eX7_countAlike_90 (by decide) (fun w8 => ?_) (fun w8 => ?_)
          · replace hv := hv.2 w8
            refine a_iinc (v := 1) (vs' := [some (.ref (G.1 0)), some (.ref (G.1 a1)), some (.int v2), some (.int (v3 + 1))]) eX7_countAlike_103 rfl rfl (by decide) rfl ?_
            refine a_goto (tgt := 56) eX7_countAlike_106 (by decide) ?_
            exact a_weak [true, true, true, true] rfl rfl hv
          · replace hv := hv.1 w8
            refine a_aload_n eX7_countAlike_93 rfl ?_
            refine gX7_7 eX7_countAlike_94 fl_X7_45 ?_
            refine a_iload_n eX7_countAlike_97 rfl ?_
            refine a_dup2 eX7_countAlike_98 rfl rfl ?_
            obtain ⟨h9, hv⟩ := hv
            refine a_iald eX7_countAlike_99 sA62 kA62 h9 ?_
            refine a_iconst (v := 1) eX7_countAlike_100 (by decide) ?_
            refine a_iadd eX7_countAlike_101 ?_
            obtain ⟨h10, hv⟩ := hv
            refine a_iast eX7_countAlike_102 sA62 kA62 h10 ?_
            refine a_iinc (v := 1) (vs' := [some (.ref (G.1 0)), some (.ref (G.1 a1)), some (.int v2), some (.int (v3 + 1))]) eX7_countAlike_103 rfl rfl (by decide) rfl ?_
            refine a_goto (tgt := 56) eX7_countAlike_106 (by decide) ?_
            exact a_weak [true, true, true, true] rfl rfl hv
theorem tX7_fee {l : Launch} {G : GT} {d : Nat} {M : Mem} {R : Option Value → Mem → Prop}  (hv : ((M 38 1) = (-1000000005) → R (some (.int (M 30 13))) M) ∧ (¬ ((M 38 1) = (-1000000005)) → Tr l G (d + 3) mX2_valueOf [.ref (G.1 1), .int (M 38 1), .int (M 30 13), .int (M 30 14), .int 0] M (kI fun q M' => At l G (d + 4) mX7_fee 49 [none, none] [.int q] M' R))) : Tr l G (d + 4) mX7_fee [.ref (G.1 0)] M R := by
  refine Tr.of rfl (Nat.le_of_ble_eq_true rfl) (vs := [some (.ref (G.1 0)), none]) rfl ?_
  refine a_aload_n eX7_fee_0 rfl ?_
  refine gX7_2 eX7_fee_1 fl_X7_28 ?_
  refine gX1_19 ld30 eX7_fee_4 fl_X7_239 ?_
  refine a_iconst (v := 1) eX7_fee_7 (by decide) ?_
  refine a_ialdc 1 eX7_fee_8 (ld_8c ld30) (ld_in ld30 8 (by decide)) (by decide) (by decide) ?_
  refine a_istore_n (vs' := [some (.ref (G.1 0)), some (.int (M 38 1))]) eX7_fee_9 rfl (Nat.le_of_ble_eq_true rfl) rfl ?_
  refine a_iload_n eX7_fee_10 rfl ?_
  refine a_ldc eX7_fee_11 kc_X7_205 ?_
  refine a_icmp_ne (tgt := 26) eX7_fee_13 (by decide) (fun w1 => ?_) (fun w1 => ?_)
  · replace hv := hv.2 w1
    refine a_aload_n eX7_fee_26 rfl ?_
    refine gX7_0 eX7_fee_27 fl_X7_10 ?_
    refine a_iload_n eX7_fee_30 rfl ?_
    refine a_aload_n eX7_fee_31 rfl ?_
    refine gX7_2 eX7_fee_32 fl_X7_28 ?_
    refine gX1_13 ld30 eX7_fee_35 fl_X7_162 ?_
    refine a_aload_n eX7_fee_38 rfl ?_
    refine gX7_2 eX7_fee_39 fl_X7_28 ?_
    refine gX1_14 ld30 eX7_fee_42 fl_X7_172 ?_
    refine a_iconst (v := 0) eX7_fee_45 (by decide) ?_
    exact qX7_242 rfl eX7_fee_46 (Nat.le_of_ble_eq_true rfl) (tr_I [false, false] rfl rfl hv)
  · replace hv := hv.1 w1
    refine a_aload_n eX7_fee_16 rfl ?_
    refine gX7_2 eX7_fee_17 fl_X7_28 ?_
    refine gX1_13 ld30 eX7_fee_20 fl_X7_162 ?_
    refine a_goto (tgt := 49) eX7_fee_23 (by decide) ?_
    exact a_iret eX7_fee_49 rfl rfl hv
theorem bX7_fee_49 {l : Launch} {G : GT} {d : Nat} {M : Mem} {R : Option Value → Mem → Prop} {r : Int32} (hv : R (some (.int r)) M) : At l G (d + 4) mX7_fee 49 [none, none] [.int r] M R := by
  exact a_iret eX7_fee_49 rfl rfl hv
theorem tX7_fine {l : Launch} {G : GT} {d : Nat} {M : Mem} {R : Option Value → Mem → Prop} {v1 : Int32} (hv : (v1 < 0 → R (some (.int (-1000000001))) M) ∧ (¬ (v1 < 0) → ((M 30 1) ≤ v1 → R (some (.int (-1000000001))) M) ∧ (¬ ((M 30 1) ≤ v1) → vp_in v1 8 ∧ Tr l G (d + 3) mJ6_bitCount_0f7a4 [.int (M 34 (ix v1))] M (kI fun q M' => At l G (d + 4) mX7_fine 33 [some (.ref (G.1 0)), some (.int v1), some (.int (M 38 2)), none] [.int q] M' R)))) : Tr l G (d + 4) mX7_fine [.ref (G.1 0), .int v1] M R := by
  refine Tr.of rfl (Nat.le_of_ble_eq_true rfl) (vs := [some (.ref (G.1 0)), some (.int v1), none, none]) rfl ?_
  refine a_aload_n eX7_fine_0 rfl ?_
  refine a_iload_n eX7_fine_1 rfl ?_
  refine qX7_82 rfl eX7_fine_2 (Nat.le_of_ble_eq_true rfl) ?_
  refine Tr.of rfl (Nat.le_of_ble_eq_true rfl) (vs := [some (.ref (G.1 0)), some (.int v1)]) rfl ?_
  refine a_iload_n eX7_isOne_0 rfl ?_
  refine a_if_lt (tgt := 19) eX7_isOne_1 (by decide) (fun w1 => ?_) (fun w1 => ?_)
  · replace hv := hv.1 w1
    refine a_iconst (v := 0) eX7_isOne_19 (by decide) ?_
    refine a_iret eX7_isOne_20 rfl rfl (ret_i ?_)
    refine a_if_ne (tgt := 11) eX7_fine_5 (by decide) (fun h => absurd h (by decide)) (fun _ => ?_)
    refine a_ldc eX7_fine_8 kc_X7_73 ?_
    exact a_iret eX7_fine_10 rfl rfl hv
  · replace hv := hv.2 w1
    refine a_iload_n eX7_isOne_4 rfl ?_
    refine a_aload_n eX7_isOne_5 rfl ?_
    refine gX7_2 eX7_isOne_6 fl_X7_28 ?_
    refine gX1_1 ld30 eX7_isOne_9 fl_X7_148 ?_
    refine a_icmp_ge (tgt := 19) eX7_isOne_12 (by decide) (fun w2 => ?_) (fun w2 => ?_)
    · replace hv := hv.1 w2
      refine a_iconst (v := 0) eX7_isOne_19 (by decide) ?_
      refine a_iret eX7_isOne_20 rfl rfl (ret_i ?_)
      refine a_if_ne (tgt := 11) eX7_fine_5 (by decide) (fun h => absurd h (by decide)) (fun _ => ?_)
      refine a_ldc eX7_fine_8 kc_X7_73 ?_
      exact a_iret eX7_fine_10 rfl rfl hv
    · replace hv := hv.2 w2
      refine a_iconst (v := 1) eX7_isOne_15 (by decide) ?_
      refine a_goto (tgt := 20) eX7_isOne_16 (by decide) ?_
      refine a_iret eX7_isOne_20 rfl rfl (ret_i ?_)
      refine a_if_ne (tgt := 11) eX7_fine_5 (by decide) (fun _ => ?_) (fun h => absurd h (by decide))
      refine a_aload_n eX7_fine_11 rfl ?_
      refine gX7_2 eX7_fine_12 fl_X7_28 ?_
      refine gX1_19 ld30 eX7_fine_15 fl_X7_239 ?_
      refine a_iconst (v := 2) eX7_fine_18 (by decide) ?_
      refine a_ialdc 2 eX7_fine_19 (ld_8c ld30) (ld_in ld30 8 (by decide)) (by decide) (by decide) ?_
      refine a_istore_n (vs' := [some (.ref (G.1 0)), some (.int v1), some (.int (M 38 2)), none]) eX7_fine_20 rfl (Nat.le_of_ble_eq_true rfl) rfl ?_
      refine a_aload_n eX7_fine_21 rfl ?_
      refine gX7_2 eX7_fine_22 fl_X7_28 ?_
      refine gX1_5 ld30 eX7_fine_25 fl_X7_94 ?_
      refine a_iload_n eX7_fine_28 rfl ?_
      obtain ⟨h3, hv⟩ := hv
      refine a_iald eX7_fine_29 (ld_8 ld30 4 (by decide)) (ld_in ld30 4 (by decide)) h3 ?_
      exact qX7_121 rfl eX7_fine_30 (Nat.le_of_ble_eq_true rfl) (tr_I [true, true, true, false] rfl rfl hv)
theorem bX7_fine_33 {l : Launch} {G : GT} {d : Nat} {M : Mem} {R : Option Value → Mem → Prop} {v1 : Int32} {v2 : Int32} {r : Int32} (hv : (v2 = (-1000000005) → R (some (.int r)) M) ∧ (¬ (v2 = (-1000000005)) → vp_in v1 8 ∧ Tr l G (d + 3) mX2_valueOf [.ref (G.1 1), .int v2, .int r, .int (M 32 (ix v1)), .int 0] M (kI fun q M' => At l G (d + 4) mX7_fine 63 [none, none, none, none] [.int q] M' R))) : At l G (d + 4) mX7_fine 33 [some (.ref (G.1 0)), some (.int v1), some (.int v2), none] [.int r] M R := by
  refine a_istore_n (vs' := [some (.ref (G.1 0)), some (.int v1), some (.int v2), some (.int r)]) eX7_fine_33 rfl (Nat.le_of_ble_eq_true rfl) rfl ?_
  refine a_iload_n eX7_fine_34 rfl ?_
  refine a_ldc eX7_fine_35 kc_X7_205 ?_
  refine a_icmp_ne (tgt := 44) eX7_fine_37 (by decide) (fun w1 => ?_) (fun w1 => ?_)
  · replace hv := hv.2 w1
    refine a_aload_n eX7_fine_44 rfl ?_
    refine gX7_0 eX7_fine_45 fl_X7_10 ?_
    refine a_iload_n eX7_fine_48 rfl ?_
    refine a_iload_n eX7_fine_49 rfl ?_
    refine a_aload_n eX7_fine_50 rfl ?_
    refine gX7_2 eX7_fine_51 fl_X7_28 ?_
    refine gX1_3 ld30 eX7_fine_54 fl_X7_88 ?_
    refine a_iload_n eX7_fine_57 rfl ?_
    obtain ⟨h2, hv⟩ := hv
    refine a_iald eX7_fine_58 (ld_8 ld30 2 (by decide)) (ld_in ld30 2 (by decide)) h2 ?_
    refine a_iconst (v := 0) eX7_fine_59 (by decide) ?_
    exact qX7_242 rfl eX7_fine_60 (Nat.le_of_ble_eq_true rfl) (tr_I [false, false, false, false] rfl rfl hv)
  · replace hv := hv.1 w1
    refine a_iload_n eX7_fine_40 rfl ?_
    refine a_goto (tgt := 63) eX7_fine_41 (by decide) ?_
    exact a_iret eX7_fine_63 rfl rfl hv
theorem bX7_fine_63 {l : Launch} {G : GT} {d : Nat} {M : Mem} {R : Option Value → Mem → Prop} {r : Int32} (hv : R (some (.int r)) M) : At l G (d + 4) mX7_fine 63 [none, none, none, none] [.int r] M R := by
  exact a_iret eX7_fine_63 rfl rfl hv
theorem tX7_feed {l : Launch} {G : GT} {d : Nat} {M : Mem} {R : Option Value → Mem → Prop} {v1 : Int32} {v2 : Int32} {v3 : Int32} (hv : (((M 21 1) + 12) ≤ 96 → Tr l G (d + 3) mX5_add [.ref (G.1 21), .int v1] M (kV fun M' => At l G (d + 4) mX7_feed 26 [some (.ref (G.1 0)), none, some (.int v2), some (.int v3)] [] M' R)) ∧ (¬ (((M 21 1) + 12) ≤ 96) → R (some (.int (-1000000003))) M)) : Tr l G (d + 4) mX7_feed [.ref (G.1 0), .int v1, .int v2, .int v3] M R := by
  refine Tr.of rfl (Nat.le_of_ble_eq_true rfl) (vs := [some (.ref (G.1 0)), some (.int v1), some (.int v2), some (.int v3)]) rfl ?_
  refine a_aload_n eX7_feed_0 rfl ?_
  refine gX7_1 eX7_feed_1 fl_X7_19 ?_
  refine gX5_1 eX7_feed_4 fl_X7_245 ?_
  refine a_bipush (v := 12) eX7_feed_7 (by decide) ?_
  refine a_iadd eX7_feed_9 ?_
  refine a_bipush (v := 96) eX7_feed_10 (by decide) ?_
  refine a_icmp_le (tgt := 18) eX7_feed_12 (by decide) (fun w1 => ?_) (fun w1 => ?_)
  · replace hv := hv.1 w1
    refine a_aload_n eX7_feed_18 rfl ?_
    refine gX7_1 eX7_feed_19 fl_X7_19 ?_
    refine a_iload_n eX7_feed_22 rfl ?_
    exact qX7_249 rfl eX7_feed_23 (Nat.le_of_ble_eq_true rfl) (tr_V [true, false, true, true] rfl rfl hv)
  · replace hv := hv.2 w1
    refine a_ldc eX7_feed_15 kc_X7_248 ?_
    exact a_iret eX7_feed_17 rfl rfl hv
theorem bX7_feed_26 {l : Launch} {G : GT} {d : Nat} {M : Mem} {R : Option Value → Mem → Prop} {v2 : Int32} {v3 : Int32} (hv : Tr l G (d + 3) mX5_add [.ref (G.1 21), .int v2] M (kV fun M' => At l G (d + 4) mX7_feed 34 [some (.ref (G.1 0)), none, none, some (.int v3)] [] M' R)) : At l G (d + 4) mX7_feed 26 [some (.ref (G.1 0)), none, some (.int v2), some (.int v3)] [] M R := by
  refine a_aload_n eX7_feed_26 rfl ?_
  refine gX7_1 eX7_feed_27 fl_X7_19 ?_
  refine a_iload_n eX7_feed_30 rfl ?_
  exact qX7_249 rfl eX7_feed_31 (Nat.le_of_ble_eq_true rfl) (tr_V [true, false, false, true] rfl rfl hv)
theorem bX7_feed_34 {l : Launch} {G : GT} {d : Nat} {M : Mem} {R : Option Value → Mem → Prop} {v3 : Int32} (hv : Tr l G (d + 3) mX5_add [.ref (G.1 21), .int v3] M (kV fun M' => At l G (d + 4) mX7_feed 42 [some (.ref (G.1 0)), none, none, none] [] M' R)) : At l G (d + 4) mX7_feed 34 [some (.ref (G.1 0)), none, none, some (.int v3)] [] M R := by
  refine a_aload_n eX7_feed_34 rfl ?_
  refine gX7_1 eX7_feed_35 fl_X7_19 ?_
  refine a_iload_n eX7_feed_38 rfl ?_
  exact qX7_249 rfl eX7_feed_39 (Nat.le_of_ble_eq_true rfl) (tr_V [true, false, false, false] rfl rfl hv)
theorem bX7_feed_42 {l : Launch} {G : GT} {d : Nat} {M : Mem} {R : Option Value → Mem → Prop}  (hv : R (some (.int (M 21 1))) M) : At l G (d + 4) mX7_feed 42 [some (.ref (G.1 0)), none, none, none] [] M R := by
  refine a_aload_n eX7_feed_42 rfl ?_
  refine gX7_1 eX7_feed_43 fl_X7_19 ?_
  refine gX5_1 eX7_feed_46 fl_X7_245 ?_
  exact a_iret eX7_feed_49 rfl rfl hv
theorem tX7_trim {l : Launch} {G : GT} {d : Nat} {M : Mem} {R : Option Value → Mem → Prop} {v1 : Int32} (hv : (v1 < 0 → R (some (.int (-1000000001))) M) ∧ (¬ (v1 < 0) → (v1 ≤ (M 21 1) → R (some (.int v1)) (um M 21 1 v1)) ∧ (¬ (v1 ≤ (M 21 1)) → R (some (.int (-1000000001))) M))) : Tr l G (d + 4) mX7_trim [.ref (G.1 0), .int v1] M R := by
  refine Tr.of rfl (Nat.le_of_ble_eq_true rfl) (vs := [some (.ref (G.1 0)), some (.int v1)]) rfl ?_
  refine a_iload_n eX7_trim_0 rfl ?_
  refine a_if_lt (tgt := 15) eX7_trim_1 (by decide) (fun w1 => ?_) (fun w1 => ?_)
  · replace hv := hv.1 w1
    refine a_ldc eX7_trim_15 kc_X7_73 ?_
    exact a_iret eX7_trim_17 rfl rfl hv
  · replace hv := hv.2 w1
    refine a_iload_n eX7_trim_4 rfl ?_
    refine a_aload_n eX7_trim_5 rfl ?_
    refine gX7_1 eX7_trim_6 fl_X7_19 ?_
    refine gX5_1 eX7_trim_9 fl_X7_245 ?_
    refine a_icmp_le (tgt := 18) eX7_trim_12 (by decide) (fun w2 => ?_) (fun w2 => ?_)
    · replace hv := hv.1 w2
      refine a_aload_n eX7_trim_18 rfl ?_
      refine gX7_1 eX7_trim_19 fl_X7_19 ?_
      refine a_iload_n eX7_trim_22 rfl ?_
      refine pX5_1 eX7_trim_23 fl_X7_245 ?_
      refine a_iload_n eX7_trim_26 rfl ?_
      exact a_iret eX7_trim_27 rfl rfl hv
    · replace hv := hv.2 w2
      refine a_ldc eX7_trim_15 kc_X7_73 ?_
      exact a_iret eX7_trim_17 rfl rfl hv
theorem tX7_text {l : Launch} {G : GT} {d : Nat} {M : Mem} {R : Option Value → Mem → Prop}  (hv : Tr l G (d + 3) mX5_faultOfText [.ref (G.1 21)] M (kI fun q M' => At l G (d + 4) mX7_text 7 [some (.ref (G.1 0)), none, none] [.int q] M' R)) : Tr l G (d + 4) mX7_text [.ref (G.1 0)] M R := by
  refine Tr.of rfl (Nat.le_of_ble_eq_true rfl) (vs := [some (.ref (G.1 0)), none, none]) rfl ?_
  refine a_aload_n eX7_text_0 rfl ?_
  refine gX7_1 eX7_text_1 fl_X7_19 ?_
  exact qX7_252 rfl eX7_text_4 (Nat.le_of_ble_eq_true rfl) (tr_I [true, false, false] rfl rfl hv)
theorem bX7_text_7 {l : Launch} {G : GT} {d : Nat} {M : Mem} {R : Option Value → Mem → Prop} {r : Int32} (hv : (r = (-1000000005) → (((um M 21 1 0) 30 18) < 14 → Tr l G (d + 3) mX2_take [.ref (G.1 1), .int ((um M 21 1 0) 30 18), .ref (G.1 21)] (um M 21 1 0) (kV fun M' => At l G (d + 4) mX7_text 62 [some (.ref (G.1 0)), none, some (.int ((um M 21 1 0) 30 18))] [] M' R)) ∧ (¬ (((um M 21 1 0) 30 18) < 14) → R (some (.int (-1000000003))) (um M 21 1 0))) ∧ (¬ (r = (-1000000005)) → R (some (.int ((-100) - r))) (um M 21 1 0))) : At l G (d + 4) mX7_text 7 [some (.ref (G.1 0)), none, none] [.int r] M R := by
  refine a_istore_n (vs' := [some (.ref (G.1 0)), some (.int r), none]) eX7_text_7 rfl (Nat.le_of_ble_eq_true rfl) rfl ?_
  refine a_aload_n eX7_text_8 rfl ?_
  refine gX7_1 eX7_text_9 fl_X7_19 ?_
  refine a_iconst (v := 0) eX7_text_12 (by decide) ?_
  refine pX5_1 eX7_text_13 fl_X7_245 ?_
  refine a_iload_n eX7_text_16 rfl ?_
  refine a_ldc eX7_text_17 kc_X7_205 ?_
  refine a_icmp_eq (tgt := 27) eX7_text_19 (by decide) (fun w1 => ?_) (fun w1 => ?_)
  · replace hv := hv.1 w1
    refine a_aload_n eX7_text_27 rfl ?_
    refine gX7_2 eX7_text_28 fl_X7_28 ?_
    refine gX1_18 ld30 eX7_text_31 fl_X7_255 ?_
    refine a_bipush (v := 14) eX7_text_34 (by decide) ?_
    refine a_icmp_lt (tgt := 42) eX7_text_36 (by decide) (fun w2 => ?_) (fun w2 => ?_)
    · replace hv := hv.1 w2
      refine a_aload_n eX7_text_42 rfl ?_
      refine gX7_2 eX7_text_43 fl_X7_28 ?_
      refine gX1_18 ld30 eX7_text_46 fl_X7_255 ?_
      refine a_istore_n (vs' := [some (.ref (G.1 0)), some (.int r), some (.int ((um M 21 1 0) 30 18))]) eX7_text_49 rfl (Nat.le_of_ble_eq_true rfl) rfl ?_
      refine a_aload_n eX7_text_50 rfl ?_
      refine gX7_0 eX7_text_51 fl_X7_10 ?_
      refine a_iload_n eX7_text_54 rfl ?_
      refine a_aload_n eX7_text_55 rfl ?_
      refine gX7_1 eX7_text_56 fl_X7_19 ?_
      exact qX7_258 rfl eX7_text_59 (Nat.le_of_ble_eq_true rfl) (tr_V [true, false, true] rfl rfl hv)
    · replace hv := hv.2 w2
      refine a_ldc eX7_text_39 kc_X7_248 ?_
      exact a_iret eX7_text_41 rfl rfl hv
  · replace hv := hv.2 w1
    refine a_bipush (v := (-100)) eX7_text_22 (by decide) ?_
    refine a_iload_n eX7_text_24 rfl ?_
    refine a_isub eX7_text_25 ?_
    exact a_iret eX7_text_26 rfl rfl hv
theorem bX7_text_62 {l : Launch} {G : GT} {d : Nat} {M : Mem} {R : Option Value → Mem → Prop} {v2 : Int32} (hv : vp_in (M 21 5) 3 ∧ ∀ M2 : Mem, M2 = um (um M 38 (ix (M 21 5)) v2) 30 18 (((um M 38 (ix (M 21 5)) v2) 30 18) + 1) → R (some (.int v2)) M2) : At l G (d + 4) mX7_text 62 [some (.ref (G.1 0)), none, some (.int v2)] [] M R := by
  refine a_aload_n eX7_text_62 rfl ?_
  refine gX7_2 eX7_text_63 fl_X7_28 ?_
  refine gX1_19 ld30 eX7_text_66 fl_X7_239 ?_
  refine a_aload_n eX7_text_69 rfl ?_
  refine gX7_1 eX7_text_70 fl_X7_19 ?_
  refine gX5_5 eX7_text_73 fl_X7_261 ?_
  refine a_iload_n eX7_text_76 rfl ?_
  obtain ⟨h1, hv⟩ := hv
  refine a_iast eX7_text_77 (ld_8c ld30) (ld_in ld30 8 (by decide)) h1 ?_
  refine a_aload_n eX7_text_78 rfl ?_
  refine gX7_2 eX7_text_79 fl_X7_28 ?_
  refine a_dup eX7_text_82 rfl ?_
  refine gX1_18 ld30 eX7_text_83 fl_X7_255 ?_
  refine a_iconst (v := 1) eX7_text_86 (by decide) ?_
  refine a_iadd eX7_text_87 ?_
  refine pX1_18 ld30 eX7_text_88 fl_X7_255 ?_
  refine a_nm (fun M2 eM2 => ?_)
  replace hv := hv M2 eM2
  refine a_iload_n eX7_text_91 rfl ?_
  exact a_iret eX7_text_92 rfl rfl hv
theorem tX7_textTold {l : Launch} {G : GT} {d : Nat} {M : Mem} {R : Option Value → Mem → Prop} {v1 : Int32} {v2 : Int32} (hv : (v1 < 0 → R (some (.int (-1000000001))) M) ∧ (¬ (v1 < 0) → ((M 30 18) ≤ v1 → R (some (.int (-1000000001))) M) ∧ (¬ ((M 30 18) ≤ v1) → (v2 < 0 → R (some (.int (-1000000001))) M) ∧ (¬ (v2 < 0) → (v2 ≤ 1 → (v2 = 0 → vp_in v1 14 ∧ R (some (.int (M 4 (ix v1)))) M) ∧ (¬ (v2 = 0) → vp_in v1 14 ∧ R (some (.int (M 5 (ix v1)))) M)) ∧ (¬ (v2 ≤ 1) → R (some (.int (-1000000001))) M))))) : Tr l G (d + 4) mX7_textTold [.ref (G.1 0), .int v1, .int v2] M R := by
  refine Tr.of rfl (Nat.le_of_ble_eq_true rfl) (vs := [some (.ref (G.1 0)), some (.int v1), some (.int v2)]) rfl ?_
  refine a_iload_n eX7_textTold_0 rfl ?_
  refine a_if_lt (tgt := 24) eX7_textTold_1 (by decide) (fun w1 => ?_) (fun w1 => ?_)
  · replace hv := hv.1 w1
    refine a_ldc eX7_textTold_24 kc_X7_73 ?_
    exact a_iret eX7_textTold_26 rfl rfl hv
  · replace hv := hv.2 w1
    refine a_iload_n eX7_textTold_4 rfl ?_
    refine a_aload_n eX7_textTold_5 rfl ?_
    refine gX7_2 eX7_textTold_6 fl_X7_28 ?_
    refine gX1_18 ld30 eX7_textTold_9 fl_X7_255 ?_
    refine a_icmp_ge (tgt := 24) eX7_textTold_12 (by decide) (fun w2 => ?_) (fun w2 => ?_)
    · replace hv := hv.1 w2
      refine a_ldc eX7_textTold_24 kc_X7_73 ?_
      exact a_iret eX7_textTold_26 rfl rfl hv
    · replace hv := hv.2 w2
      refine a_iload_n eX7_textTold_15 rfl ?_
      refine a_if_lt (tgt := 24) eX7_textTold_16 (by decide) (fun w3 => ?_) (fun w3 => ?_)
      · replace hv := hv.1 w3
        refine a_ldc eX7_textTold_24 kc_X7_73 ?_
        exact a_iret eX7_textTold_26 rfl rfl hv
      · replace hv := hv.2 w3
        refine a_iload_n eX7_textTold_19 rfl ?_
        refine a_iconst (v := 1) eX7_textTold_20 (by decide) ?_
        refine a_icmp_le (tgt := 27) eX7_textTold_21 (by decide) (fun w4 => ?_) (fun w4 => ?_)
        · replace hv := hv.1 w4
          refine a_iload_n eX7_textTold_27 rfl ?_
          refine a_if_ne (tgt := 43) eX7_textTold_28 (by decide) (fun w5 => ?_) (fun w5 => ?_)
          · replace hv := hv.2 w5
            refine a_aload_n eX7_textTold_43 rfl ?_
            refine gX7_0 eX7_textTold_44 fl_X7_10 ?_
            refine gX2_3 eX7_textTold_47 fl_X7_267 ?_
            refine a_iload_n eX7_textTold_50 rfl ?_
            obtain ⟨h6, hv⟩ := hv
            refine a_iald eX7_textTold_51 sA5 kA5 h6 ?_
            exact a_iret eX7_textTold_52 rfl rfl hv
          · replace hv := hv.1 w5
            refine a_aload_n eX7_textTold_31 rfl ?_
            refine gX7_0 eX7_textTold_32 fl_X7_10 ?_
            refine gX2_2 eX7_textTold_35 fl_X7_264 ?_
            refine a_iload_n eX7_textTold_38 rfl ?_
            obtain ⟨h7, hv⟩ := hv
            refine a_iald eX7_textTold_39 sA4 kA4 h7 ?_
            refine a_goto (tgt := 52) eX7_textTold_40 (by decide) ?_
            exact a_iret eX7_textTold_52 rfl rfl hv
        · replace hv := hv.2 w4
          refine a_ldc eX7_textTold_24 kc_X7_73 ?_
          exact a_iret eX7_textTold_26 rfl rfl hv
theorem tX7_why {l : Launch} {G : GT} {d : Nat} {M : Mem} {R : Option Value → Mem → Prop} {v1 : Int32} (hv : (v1 < 0 → R (some (.int (-1000000001))) M) ∧ (¬ (v1 < 0) → (v1 < 3 → vp_in v1 3 ∧ R (some (.int (M 38 (ix v1)))) M) ∧ (¬ (v1 < 3) → R (some (.int (-1000000001))) M))) : Tr l G (d + 4) mX7_why [.ref (G.1 0), .int v1] M R := by
  refine Tr.of rfl (Nat.le_of_ble_eq_true rfl) (vs := [some (.ref (G.1 0)), some (.int v1)]) rfl ?_
  refine a_iload_n eX7_why_0 rfl ?_
  refine a_if_lt (tgt := 9) eX7_why_1 (by decide) (fun w1 => ?_) (fun w1 => ?_)
  · replace hv := hv.1 w1
    refine a_ldc eX7_why_9 kc_X7_73 ?_
    refine a_goto (tgt := 23) eX7_why_11 (by decide) ?_
    exact a_iret eX7_why_23 rfl rfl hv
  · replace hv := hv.2 w1
    refine a_iload_n eX7_why_4 rfl ?_
    refine a_iconst (v := 3) eX7_why_5 (by decide) ?_
    refine a_icmp_lt (tgt := 14) eX7_why_6 (by decide) (fun w2 => ?_) (fun w2 => ?_)
    · replace hv := hv.1 w2
      refine a_aload_n eX7_why_14 rfl ?_
      refine gX7_2 eX7_why_15 fl_X7_28 ?_
      refine gX1_19 ld30 eX7_why_18 fl_X7_239 ?_
      refine a_iload_n eX7_why_21 rfl ?_
      obtain ⟨h3, hv⟩ := hv
      refine a_iald eX7_why_22 (ld_8c ld30) (ld_in ld30 8 (by decide)) h3 ?_
      exact a_iret eX7_why_23 rfl rfl hv
    · replace hv := hv.2 w2
      refine a_ldc eX7_why_9 kc_X7_73 ?_
      refine a_goto (tgt := 23) eX7_why_11 (by decide) ?_
      exact a_iret eX7_why_23 rfl rfl hv
theorem tX7_sheet {l : Launch} {G : GT} {d : Nat} {M : Mem} {R : Option Value → Mem → Prop} {v1 : Int32} {v2 : Int32} {v3 : Int32} (hv : (v1 < 0 → R (some (.int (-1000000001))) M) ∧ (¬ (v1 < 0) → (4 ≤ v1 → R (some (.int (-1000000001))) M) ∧ (¬ (4 ≤ v1) → (v2 < (-1) → R (some (.int (-1000000001))) M) ∧ (¬ (v2 < (-1)) → (v2 ≤ 1 → (v2 = (-1) → vp_in v1 4 ∧ Tr l G (d + 3) mX3_become [.ref (G.1 (70 + 2 * ix v1)), .int (-1), .int 0] M (kV fun M' => At l G (d + 4) mX7_sheet 36 [none, none, none, none] [] M' R)) ∧ (¬ (v2 = (-1)) → (v3 ≤ 24 → (0 ≤ v3 → vp_in v1 4 ∧ Tr l G (d + 3) mX3_become [.ref (G.1 (70 + 2 * ix v1)), .int v2, .int v3] M (kV fun M' => At l G (d + 4) mX7_sheet 66 [none, none, none, some (.int v3)] [] M' R)) ∧ (¬ (0 ≤ v3) → R (some (.int (-1000000014))) M)) ∧ (¬ (v3 ≤ 24) → R (some (.int (-1000000001))) M))) ∧ (¬ (v2 ≤ 1) → R (some (.int (-1000000001))) M))))) : Tr l G (d + 4) mX7_sheet [.ref (G.1 0), .int v1, .int v2, .int v3] M R := by
  refine Tr.of rfl (Nat.le_of_ble_eq_true rfl) (vs := [some (.ref (G.1 0)), some (.int v1), some (.int v2), some (.int v3)]) rfl ?_
  refine a_iload_n eX7_sheet_0 rfl ?_
  refine qX7_218 rfl eX7_sheet_1 (Nat.le_of_ble_eq_true rfl) ?_
  refine Tr.of rfl (Nat.le_of_ble_eq_true rfl) (vs := [some (.int v1)]) rfl ?_
  refine a_iload_n eX7_isSheet_0 rfl ?_
  refine a_if_lt (tgt := 13) eX7_isSheet_1 (by decide) (fun w1 => ?_) (fun w1 => ?_)
  · replace hv := hv.1 w1
    refine a_iconst (v := 0) eX7_isSheet_13 (by decide) ?_
    refine a_iret eX7_isSheet_14 rfl rfl (ret_i ?_)
    refine a_if_eq (tgt := 17) eX7_sheet_4 (by decide) (fun _ => ?_) (fun h => absurd h (by decide))
    refine a_ldc eX7_sheet_17 kc_X7_73 ?_
    exact a_iret eX7_sheet_19 rfl rfl hv
  · replace hv := hv.2 w1
    refine a_iload_n eX7_isSheet_4 rfl ?_
    refine a_iconst (v := 4) eX7_isSheet_5 (by decide) ?_
    refine a_icmp_ge (tgt := 13) eX7_isSheet_6 (by decide) (fun w2 => ?_) (fun w2 => ?_)
    · replace hv := hv.1 w2
      refine a_iconst (v := 0) eX7_isSheet_13 (by decide) ?_
      refine a_iret eX7_isSheet_14 rfl rfl (ret_i ?_)
      refine a_if_eq (tgt := 17) eX7_sheet_4 (by decide) (fun _ => ?_) (fun h => absurd h (by decide))
      refine a_ldc eX7_sheet_17 kc_X7_73 ?_
      exact a_iret eX7_sheet_19 rfl rfl hv
    · replace hv := hv.2 w2
      refine a_iconst (v := 1) eX7_isSheet_9 (by decide) ?_
      refine a_goto (tgt := 14) eX7_isSheet_10 (by decide) ?_
      refine a_iret eX7_isSheet_14 rfl rfl (ret_i ?_)
      refine a_if_eq (tgt := 17) eX7_sheet_4 (by decide) (fun h => absurd h (by decide)) (fun _ => ?_)
      refine a_iload_n eX7_sheet_7 rfl ?_
      refine a_iconst (v := (-1)) eX7_sheet_8 (by decide) ?_
      refine a_icmp_lt (tgt := 17) eX7_sheet_9 (by decide) (fun w3 => ?_) (fun w3 => ?_)
      · replace hv := hv.1 w3
        refine a_ldc eX7_sheet_17 kc_X7_73 ?_
        exact a_iret eX7_sheet_19 rfl rfl hv
      · replace hv := hv.2 w3
        refine a_iload_n eX7_sheet_12 rfl ?_
        refine a_iconst (v := 1) eX7_sheet_13 (by decide) ?_
        refine a_icmp_le (tgt := 20) eX7_sheet_14 (by decide) (fun w4 => ?_) (fun w4 => ?_)
        · replace hv := hv.1 w4
          refine a_iload_n eX7_sheet_20 rfl ?_
          refine a_iconst (v := (-1)) eX7_sheet_21 (by decide) ?_
          refine a_icmp_ne (tgt := 38) eX7_sheet_22 (by decide) (fun w5 => ?_) (fun w5 => ?_)
          · replace hv := hv.2 w5
            refine a_iload_n eX7_sheet_38 rfl ?_
            refine a_bipush (v := 24) eX7_sheet_39 (by decide) ?_
            refine a_icmp_le (tgt := 47) eX7_sheet_41 (by decide) (fun w6 => ?_) (fun w6 => ?_)
            · replace hv := hv.1 w6
              refine a_iload_n eX7_sheet_47 rfl ?_
              refine a_if_ge (tgt := 55) eX7_sheet_48 (by decide) (fun w7 => ?_) (fun w7 => ?_)
              · replace hv := hv.1 w7
                refine a_aload_n eX7_sheet_55 rfl ?_
                refine gX7_8 eX7_sheet_56 fl_X7_54 ?_
                refine a_iload_n eX7_sheet_59 rfl ?_
                obtain ⟨h8, hv⟩ := hv
                refine a_aald_sheets eX7_sheet_60 h8 ?_
                refine a_iload_n eX7_sheet_61 rfl ?_
                refine a_iload_n eX7_sheet_62 rfl ?_
                exact qX7_270 (sht_is (vp_lt h8)) rfl eX7_sheet_63 (Nat.le_of_ble_eq_true rfl) (tr_V [false, false, false, true] rfl rfl hv)
              · replace hv := hv.2 w7
                refine a_ldcw eX7_sheet_51 kc_X7_274 ?_
                exact a_iret eX7_sheet_54 rfl rfl hv
            · replace hv := hv.2 w6
              refine a_ldc eX7_sheet_44 kc_X7_73 ?_
              exact a_iret eX7_sheet_46 rfl rfl hv
          · replace hv := hv.1 w5
            refine a_aload_n eX7_sheet_25 rfl ?_
            refine gX7_8 eX7_sheet_26 fl_X7_54 ?_
            refine a_iload_n eX7_sheet_29 rfl ?_
            obtain ⟨h9, hv⟩ := hv
            refine a_aald_sheets eX7_sheet_30 h9 ?_
            refine a_iconst (v := (-1)) eX7_sheet_31 (by decide) ?_
            refine a_iconst (v := 0) eX7_sheet_32 (by decide) ?_
            exact qX7_270 (sht_is (vp_lt h9)) rfl eX7_sheet_33 (Nat.le_of_ble_eq_true rfl) (tr_V [false, false, false, false] rfl rfl hv)
        · replace hv := hv.2 w4
          refine a_ldc eX7_sheet_17 kc_X7_73 ?_
          exact a_iret eX7_sheet_19 rfl rfl hv
theorem bX7_sheet_36 {l : Launch} {G : GT} {d : Nat} {M : Mem} {R : Option Value → Mem → Prop}  (hv : R (some (.int 0)) M) : At l G (d + 4) mX7_sheet 36 [none, none, none, none] [] M R := by
  refine a_iconst (v := 0) eX7_sheet_36 (by decide) ?_
  exact a_iret eX7_sheet_37 rfl rfl hv
theorem bX7_sheet_66 {l : Launch} {G : GT} {d : Nat} {M : Mem} {R : Option Value → Mem → Prop} {v3 : Int32} (hv : R (some (.int v3)) M) : At l G (d + 4) mX7_sheet 66 [none, none, none, some (.int v3)] [] M R := by
  refine a_iload_n eX7_sheet_66 rfl ?_
  exact a_iret eX7_sheet_67 rfl rfl hv
theorem tX7_mark {l : Launch} {G : GT} {d : Nat} {M : Mem} {R : Option Value → Mem → Prop} {v1 : Int32} {v2 : Int32} {v3 : Int32} (hv : (v1 < 0 → R (some (.int (-1000000001))) M) ∧ (¬ (v1 < 0) → (4 ≤ v1 → R (some (.int (-1000000001))) M) ∧ (¬ (4 ≤ v1) → vp_in v1 4 ∧ ((M (70 + 2 * ix v1) 0) = (-1) → R (some (.int (-1000000011))) M) ∧ (¬ ((M (70 + 2 * ix v1) 0) = (-1)) → (v2 < 0 → R (some (.int (-1000000013))) M) ∧ (¬ (v2 < 0) → ((M (70 + 2 * ix v1) 1) ≤ v2 → R (some (.int (-1000000013))) M) ∧ (¬ ((M (70 + 2 * ix v1) 1) ≤ v2) → ((M (70 + 2 * ix v1) 0) = 0 → (v3 = (-1000000005) → R (some (.int (-1000000012))) M) ∧ (¬ (v3 = (-1000000005)) → vp_in v2 24 ∧ R (some (.int 1)) (um M (70 + 2 * ix v1 + 1) (ix v2) v3.toInt16.toInt32))) ∧ (¬ ((M (70 + 2 * ix v1) 0) = 0) → (v3 = (-1000000005) → vp_in v2 24 ∧ R (some (.int 1)) (um M (70 + 2 * ix v1 + 1) (ix v2) v3)) ∧ (¬ (v3 = (-1000000005)) → (v3 < (-99999) → R (some (.int (-1000000001))) M) ∧ (¬ (v3 < (-99999)) → (v3 ≤ 99999 → vp_in v2 24 ∧ R (some (.int 1)) (um M (70 + 2 * ix v1 + 1) (ix v2) v3)) ∧ (¬ (v3 ≤ 99999) → R (some (.int (-1000000001))) M)))))))))) : Tr l G (d + 4) mX7_mark [.ref (G.1 0), .int v1, .int v2, .int v3] M R := by
  refine Tr.of rfl (Nat.le_of_ble_eq_true rfl) (vs := [some (.ref (G.1 0)), some (.int v1), some (.int v2), some (.int v3), none]) rfl ?_
  refine a_iload_n eX7_mark_0 rfl ?_
  refine qX7_218 rfl eX7_mark_1 (Nat.le_of_ble_eq_true rfl) ?_
  refine Tr.of rfl (Nat.le_of_ble_eq_true rfl) (vs := [some (.int v1)]) rfl ?_
  refine a_iload_n eX7_isSheet_0 rfl ?_
  refine a_if_lt (tgt := 13) eX7_isSheet_1 (by decide) (fun w1 => ?_) (fun w1 => ?_)
  · replace hv := hv.1 w1
    refine a_iconst (v := 0) eX7_isSheet_13 (by decide) ?_
    refine a_iret eX7_isSheet_14 rfl rfl (ret_i ?_)
    refine a_if_ne (tgt := 10) eX7_mark_4 (by decide) (fun h => absurd h (by decide)) (fun _ => ?_)
    refine a_ldc eX7_mark_7 kc_X7_73 ?_
    exact a_iret eX7_mark_9 rfl rfl hv
  · replace hv := hv.2 w1
    refine a_iload_n eX7_isSheet_4 rfl ?_
    refine a_iconst (v := 4) eX7_isSheet_5 (by decide) ?_
    refine a_icmp_ge (tgt := 13) eX7_isSheet_6 (by decide) (fun w2 => ?_) (fun w2 => ?_)
    · replace hv := hv.1 w2
      refine a_iconst (v := 0) eX7_isSheet_13 (by decide) ?_
      refine a_iret eX7_isSheet_14 rfl rfl (ret_i ?_)
      refine a_if_ne (tgt := 10) eX7_mark_4 (by decide) (fun h => absurd h (by decide)) (fun _ => ?_)
      refine a_ldc eX7_mark_7 kc_X7_73 ?_
      exact a_iret eX7_mark_9 rfl rfl hv
    · replace hv := hv.2 w2
      refine a_iconst (v := 1) eX7_isSheet_9 (by decide) ?_
      refine a_goto (tgt := 14) eX7_isSheet_10 (by decide) ?_
      refine a_iret eX7_isSheet_14 rfl rfl (ret_i ?_)
      refine a_if_ne (tgt := 10) eX7_mark_4 (by decide) (fun _ => ?_) (fun h => absurd h (by decide))
      refine a_aload_n eX7_mark_10 rfl ?_
      refine gX7_8 eX7_mark_11 fl_X7_54 ?_
      refine a_iload_n eX7_mark_14 rfl ?_
      obtain ⟨h3, hv⟩ := hv
      refine a_aald_sheets eX7_mark_15 h3 ?_
      refine a_astore (vs' := [some (.ref (G.1 0)), some (.int v1), some (.int v2), some (.int v3), some (.ref (G.1 (70 + 2 * ix v1)))]) eX7_mark_16 rfl (Nat.le_of_ble_eq_true rfl) rfl ?_
      refine a_aload eX7_mark_18 rfl ?_
      refine qX7_221 (sht_is (vp_lt h3)) rfl eX7_mark_20 (Nat.le_of_ble_eq_true rfl) ?_
      refine Tr.of rfl (Nat.le_of_ble_eq_true rfl) (vs := [some (.ref (G.1 (70 + 2 * ix v1)))]) rfl ?_
      refine a_aload_n eX3_isMissing_0 rfl ?_
      refine gX3_0 (sht_is (vp_lt h3)) eX3_isMissing_1 fl_X3_9 ?_
      refine a_iconst (v := (-1)) eX3_isMissing_4 (by decide) ?_
      refine a_icmp_ne (tgt := 12) eX3_isMissing_5 (by decide) (fun w4 => ?_) (fun w4 => ?_)
      · replace hv := hv.2 w4
        refine a_iconst (v := 0) eX3_isMissing_12 (by decide) ?_
        refine a_iret eX3_isMissing_13 rfl rfl (ret_i ?_)
        refine a_if_eq (tgt := 29) eX7_mark_23 (by decide) (fun _ => ?_) (fun h => absurd h (by decide))
        refine a_aload eX7_mark_29 rfl ?_
        refine a_iload_n eX7_mark_31 rfl ?_
        refine qX7_275 (sht_is (vp_lt h3)) rfl eX7_mark_32 (Nat.le_of_ble_eq_true rfl) ?_
        refine Tr.of rfl (Nat.le_of_ble_eq_true rfl) (vs := [some (.ref (G.1 (70 + 2 * ix v1))), some (.int v2)]) rfl ?_
        refine a_iload_n eX3_hasPlace_0 rfl ?_
        refine a_if_lt (tgt := 16) eX3_hasPlace_1 (by decide) (fun w5 => ?_) (fun w5 => ?_)
        · replace hv := hv.1 w5
          refine a_iconst (v := 0) eX3_hasPlace_16 (by decide) ?_
          refine a_iret eX3_hasPlace_17 rfl rfl (ret_i ?_)
          refine a_if_ne (tgt := 42) eX7_mark_35 (by decide) (fun h => absurd h (by decide)) (fun _ => ?_)
          refine a_ldcw eX7_mark_38 kc_X7_278 ?_
          exact a_iret eX7_mark_41 rfl rfl hv
        · replace hv := hv.2 w5
          refine a_iload_n eX3_hasPlace_4 rfl ?_
          refine a_aload_n eX3_hasPlace_5 rfl ?_
          refine gX3_1 (sht_is (vp_lt h3)) eX3_hasPlace_6 fl_X3_19 ?_
          refine a_icmp_ge (tgt := 16) eX3_hasPlace_9 (by decide) (fun w6 => ?_) (fun w6 => ?_)
          · replace hv := hv.1 w6
            refine a_iconst (v := 0) eX3_hasPlace_16 (by decide) ?_
            refine a_iret eX3_hasPlace_17 rfl rfl (ret_i ?_)
            refine a_if_ne (tgt := 42) eX7_mark_35 (by decide) (fun h => absurd h (by decide)) (fun _ => ?_)
            refine a_ldcw eX7_mark_38 kc_X7_278 ?_
            exact a_iret eX7_mark_41 rfl rfl hv
          · replace hv := hv.2 w6
            refine a_iconst (v := 1) eX3_hasPlace_12 (by decide) ?_
            refine a_goto (tgt := 17) eX3_hasPlace_13 (by decide) ?_
            refine a_iret eX3_hasPlace_17 rfl rfl (ret_i ?_)
            refine a_if_ne (tgt := 42) eX7_mark_35 (by decide) (fun _ => ?_) (fun h => absurd h (by decide))
            refine a_aload eX7_mark_42 rfl ?_
            refine gX3_0 (sht_is (vp_lt h3)) eX7_mark_44 fl_X7_279 ?_
            refine a_if_ne (tgt := 70) eX7_mark_47 (by decide) (fun w7 => ?_) (fun w7 => ?_)
            · replace hv := hv.2 w7
              refine a_iload_n eX7_mark_70 rfl ?_
              refine a_ldc eX7_mark_71 kc_X7_205 ?_
              refine a_icmp_eq (tgt := 93) eX7_mark_73 (by decide) (fun w8 => ?_) (fun w8 => ?_)
              · replace hv := hv.1 w8
                refine a_aload eX7_mark_93 rfl ?_
                refine gX3_2 (sht_is (vp_lt h3)) eX7_mark_95 fl_X7_236 ?_
                refine a_iload_n eX7_mark_98 rfl ?_
                refine a_iload_n eX7_mark_99 rfl ?_
                obtain ⟨h9, hv⟩ := hv
                refine a_iast eX7_mark_100 (sh_1 (sht_is (vp_lt h3))) (sh_in1 (sht_is (vp_lt h3))) h9 ?_
                refine a_iconst (v := 1) eX7_mark_101 (by decide) ?_
                exact a_iret eX7_mark_102 rfl rfl hv
              · replace hv := hv.2 w8
                refine a_iload_n eX7_mark_76 rfl ?_
                refine a_ldcw eX7_mark_77 kc_X7_282 ?_
                refine a_icmp_lt (tgt := 90) eX7_mark_80 (by decide) (fun w10 => ?_) (fun w10 => ?_)
                · replace hv := hv.1 w10
                  refine a_ldc eX7_mark_90 kc_X7_73 ?_
                  exact a_iret eX7_mark_92 rfl rfl hv
                · replace hv := hv.2 w10
                  refine a_iload_n eX7_mark_83 rfl ?_
                  refine a_ldcw eX7_mark_84 kc_X7_283 ?_
                  refine a_icmp_le (tgt := 93) eX7_mark_87 (by decide) (fun w11 => ?_) (fun w11 => ?_)
                  · replace hv := hv.1 w11
                    refine a_aload eX7_mark_93 rfl ?_
                    refine gX3_2 (sht_is (vp_lt h3)) eX7_mark_95 fl_X7_236 ?_
                    refine a_iload_n eX7_mark_98 rfl ?_
                    refine a_iload_n eX7_mark_99 rfl ?_
                    obtain ⟨h12, hv⟩ := hv
                    refine a_iast eX7_mark_100 (sh_1 (sht_is (vp_lt h3))) (sh_in1 (sht_is (vp_lt h3))) h12 ?_
                    refine a_iconst (v := 1) eX7_mark_101 (by decide) ?_
                    exact a_iret eX7_mark_102 rfl rfl hv
                  · replace hv := hv.2 w11
                    refine a_ldc eX7_mark_90 kc_X7_73 ?_
                    exact a_iret eX7_mark_92 rfl rfl hv
            · replace hv := hv.1 w7
              refine a_iload_n eX7_mark_50 rfl ?_
              refine a_ldc eX7_mark_51 kc_X7_205 ?_
              refine a_icmp_ne (tgt := 59) eX7_mark_53 (by decide) (fun w13 => ?_) (fun w13 => ?_)
              · replace hv := hv.2 w13
                refine a_aload eX7_mark_59 rfl ?_
                refine gX3_2 (sht_is (vp_lt h3)) eX7_mark_61 fl_X7_236 ?_
                refine a_iload_n eX7_mark_64 rfl ?_
                refine a_iload_n eX7_mark_65 rfl ?_
                refine a_i2s eX7_mark_66 ?_
                obtain ⟨h14, hv⟩ := hv
                refine a_iast eX7_mark_67 (sh_1 (sht_is (vp_lt h3))) (sh_in1 (sht_is (vp_lt h3))) h14 ?_
                refine a_iconst (v := 1) eX7_mark_68 (by decide) ?_
                exact a_iret eX7_mark_69 rfl rfl hv
              · replace hv := hv.1 w13
                refine a_ldc eX7_mark_56 kc_X7_113 ?_
                exact a_iret eX7_mark_58 rfl rfl hv
      · replace hv := hv.1 w4
        refine a_iconst (v := 1) eX3_isMissing_8 (by decide) ?_
        refine a_goto (tgt := 13) eX3_isMissing_9 (by decide) ?_
        refine a_iret eX3_isMissing_13 rfl rfl (ret_i ?_)
        refine a_if_eq (tgt := 29) eX7_mark_23 (by decide) (fun h => absurd h (by decide)) (fun _ => ?_)
        refine a_ldc eX7_mark_26 kc_X7_225 ?_
        exact a_iret eX7_mark_28 rfl rfl hv
theorem tX7_pour {l : Launch} {G : GT} {d : Nat} {M : Mem} {R : Option Value → Mem → Prop} {v1 : Int32} (hv : (v1 < 0 → R (some (.int (-1000000001))) M) ∧ (¬ (v1 < 0) → (4 ≤ v1 → R (some (.int (-1000000001))) M) ∧ (¬ (4 ≤ v1) → vp_in v1 4 ∧ ((M (70 + 2 * ix v1) 0) = (-1) → R (some (.int (-1000000011))) M) ∧ (¬ ((M (70 + 2 * ix v1) 0) = (-1)) → At l G (d + 4) mX7_pour 32 [some (.ref (G.1 0)), none, some (.ref (G.1 (70 + 2 * ix v1))), some (.int 0), some (.int 0), none] [] M R)))) : Tr l G (d + 4) mX7_pour [.ref (G.1 0), .int v1] M R := by
  refine Tr.of rfl (Nat.le_of_ble_eq_true rfl) (vs := [some (.ref (G.1 0)), some (.int v1), none, none, none, none]) rfl ?_
  refine a_iload_n eX7_pour_0 rfl ?_
  refine qX7_218 rfl eX7_pour_1 (Nat.le_of_ble_eq_true rfl) ?_
  refine Tr.of rfl (Nat.le_of_ble_eq_true rfl) (vs := [some (.int v1)]) rfl ?_
  refine a_iload_n eX7_isSheet_0 rfl ?_
  refine a_if_lt (tgt := 13) eX7_isSheet_1 (by decide) (fun w1 => ?_) (fun w1 => ?_)
  · replace hv := hv.1 w1
    refine a_iconst (v := 0) eX7_isSheet_13 (by decide) ?_
    refine a_iret eX7_isSheet_14 rfl rfl (ret_i ?_)
    refine a_if_ne (tgt := 10) eX7_pour_4 (by decide) (fun h => absurd h (by decide)) (fun _ => ?_)
    refine a_ldc eX7_pour_7 kc_X7_73 ?_
    exact a_iret eX7_pour_9 rfl rfl hv
  · replace hv := hv.2 w1
    refine a_iload_n eX7_isSheet_4 rfl ?_
    refine a_iconst (v := 4) eX7_isSheet_5 (by decide) ?_
    refine a_icmp_ge (tgt := 13) eX7_isSheet_6 (by decide) (fun w2 => ?_) (fun w2 => ?_)
    · replace hv := hv.1 w2
      refine a_iconst (v := 0) eX7_isSheet_13 (by decide) ?_
      refine a_iret eX7_isSheet_14 rfl rfl (ret_i ?_)
      refine a_if_ne (tgt := 10) eX7_pour_4 (by decide) (fun h => absurd h (by decide)) (fun _ => ?_)
      refine a_ldc eX7_pour_7 kc_X7_73 ?_
      exact a_iret eX7_pour_9 rfl rfl hv
    · replace hv := hv.2 w2
      refine a_iconst (v := 1) eX7_isSheet_9 (by decide) ?_
      refine a_goto (tgt := 14) eX7_isSheet_10 (by decide) ?_
      refine a_iret eX7_isSheet_14 rfl rfl (ret_i ?_)
      refine a_if_ne (tgt := 10) eX7_pour_4 (by decide) (fun _ => ?_) (fun h => absurd h (by decide))
      refine a_aload_n eX7_pour_10 rfl ?_
      refine gX7_8 eX7_pour_11 fl_X7_54 ?_
      refine a_iload_n eX7_pour_14 rfl ?_
      obtain ⟨h3, hv⟩ := hv
      refine a_aald_sheets eX7_pour_15 h3 ?_
      refine a_astore_n (vs' := [some (.ref (G.1 0)), some (.int v1), some (.ref (G.1 (70 + 2 * ix v1))), none, none, none]) eX7_pour_16 rfl (Nat.le_of_ble_eq_true rfl) rfl ?_
      refine a_aload_n eX7_pour_17 rfl ?_
      refine qX7_221 (sht_is (vp_lt h3)) rfl eX7_pour_18 (Nat.le_of_ble_eq_true rfl) ?_
      refine Tr.of rfl (Nat.le_of_ble_eq_true rfl) (vs := [some (.ref (G.1 (70 + 2 * ix v1)))]) rfl ?_
      refine a_aload_n eX3_isMissing_0 rfl ?_
      refine gX3_0 (sht_is (vp_lt h3)) eX3_isMissing_1 fl_X3_9 ?_
      refine a_iconst (v := (-1)) eX3_isMissing_4 (by decide) ?_
      refine a_icmp_ne (tgt := 12) eX3_isMissing_5 (by decide) (fun w4 => ?_) (fun w4 => ?_)
      · replace hv := hv.2 w4
        refine a_iconst (v := 0) eX3_isMissing_12 (by decide) ?_
        refine a_iret eX3_isMissing_13 rfl rfl (ret_i ?_)
        refine a_if_eq (tgt := 27) eX7_pour_21 (by decide) (fun _ => ?_) (fun h => absurd h (by decide))
        refine a_iconst (v := 0) eX7_pour_27 (by decide) ?_
        refine a_istore_n (vs' := [some (.ref (G.1 0)), some (.int v1), some (.ref (G.1 (70 + 2 * ix v1))), some (.int 0), none, none]) eX7_pour_28 rfl (Nat.le_of_ble_eq_true rfl) rfl ?_
        refine a_iconst (v := 0) eX7_pour_29 (by decide) ?_
        refine a_istore (vs' := [some (.ref (G.1 0)), some (.int v1), some (.ref (G.1 (70 + 2 * ix v1))), some (.int 0), some (.int 0), none]) eX7_pour_30 rfl (Nat.le_of_ble_eq_true rfl) rfl ?_
        exact a_weak [true, false, true, true, true, false] rfl rfl hv
      · replace hv := hv.1 w4
        refine a_iconst (v := 1) eX3_isMissing_8 (by decide) ?_
        refine a_goto (tgt := 13) eX3_isMissing_9 (by decide) ?_
        refine a_iret eX3_isMissing_13 rfl rfl (ret_i ?_)
        refine a_if_eq (tgt := 27) eX7_pour_21 (by decide) (fun h => absurd h (by decide)) (fun _ => ?_)
        refine a_ldc eX7_pour_24 kc_X7_225 ?_
        exact a_iret eX7_pour_26 rfl rfl hv
theorem bX7_pour_32 {l : Launch} {G : GT} {d : Nat} {M : Mem} {R : Option Value → Mem → Prop} {c2 : Nat} (hc2 : IsSh c2) {v3 : Int32} {v4 : Int32} (hv : ((M 30 1) ≤ v4 → R (some (.int v3)) M) ∧ (¬ ((M 30 1) ≤ v4) → (v4 < 0 → At l G (d + 4) mX7_pour 32 [some (.ref (G.1 0)), none, some (.ref (G.1 c2)), some (.int v3), some (.int (v4 + 1)), none] [] M R) ∧ (¬ (v4 < 0) → ((M c2 1) ≤ v4 → At l G (d + 4) mX7_pour 32 [some (.ref (G.1 0)), none, some (.ref (G.1 c2)), some (.int v3), some (.int (v4 + 1)), none] [] M R) ∧ (¬ ((M c2 1) ≤ v4) → vp_in v4 24 ∧ ((M (c2 + 1) (ix v4)) = (-1000000005) → At l G (d + 4) mX7_pour 32 [some (.ref (G.1 0)), none, some (.ref (G.1 c2)), some (.int v3), some (.int (v4 + 1)), none] [] M R) ∧ (¬ ((M (c2 + 1) (ix v4)) = (-1000000005)) → vp_in v4 24 ∧ vp_in v4 8 ∧ ((if 0 < (if 99 < (M (c2 + 1) (ix v4)) then 99 else (M (c2 + 1) (ix v4))) then (if 99 < (M (c2 + 1) (ix v4)) then 99 else (M (c2 + 1) (ix v4))) else 0) = (M 33 (ix v4)) → vp_in v4 8 ∧ ∀ M12 : Mem, M12 = um M 33 (ix v4) (if 0 < (if 99 < (M (c2 + 1) (ix v4)) then 99 else (M (c2 + 1) (ix v4))) then (if 99 < (M (c2 + 1) (ix v4)) then 99 else (M (c2 + 1) (ix v4))) else 0) → At l G (d + 4) mX7_pour 32 [some (.ref (G.1 0)), none, some (.ref (G.1 c2)), some (.int (v3 + 0)), some (.int (v4 + 1)), none] [] M12 R) ∧ (¬ ((if 0 < (if 99 < (M (c2 + 1) (ix v4)) then 99 else (M (c2 + 1) (ix v4))) then (if 99 < (M (c2 + 1) (ix v4)) then 99 else (M (c2 + 1) (ix v4))) else 0) = (M 33 (ix v4))) → vp_in v4 8 ∧ ∀ M10 : Mem, M10 = um M 33 (ix v4) (if 0 < (if 99 < (M (c2 + 1) (ix v4)) then 99 else (M (c2 + 1) (ix v4))) then (if 99 < (M (c2 + 1) (ix v4)) then 99 else (M (c2 + 1) (ix v4))) else 0) → At l G (d + 4) mX7_pour 32 [some (.ref (G.1 0)), none, some (.ref (G.1 c2)), some (.int (v3 + 1)), some (.int (v4 + 1)), none] [] M10 R)))))) : At l G (d + 4) mX7_pour 32 [some (.ref (G.1 0)), none, some (.ref (G.1 c2)), some (.int v3), some (.int v4), none] [] M R := by
  refine a_iload eX7_pour_32 rfl ?_
  refine a_aload_n eX7_pour_34 rfl ?_
  refine gX7_2 eX7_pour_35 fl_X7_28 ?_
  refine gX1_1 ld30 eX7_pour_38 fl_X7_148 ?_
  refine a_icmp_ge (tgt := 108) eX7_pour_41 (by decide) (fun w1 => ?_) (fun w1 => ?_)
  · replace hv := hv.1 w1
    refine a_iload_n eX7_pour_108 rfl ?_
    exact a_iret eX7_pour_109 rfl rfl hv
  · replace hv := hv.2 w1
    refine a_aload_n eX7_pour_44 rfl ?_
    refine a_iload eX7_pour_45 rfl ?_
    refine qX7_233 hc2 rfl eX7_pour_47 (Nat.le_of_ble_eq_true rfl) ?_
    refine Tr.of rfl (Nat.le_of_ble_eq_true rfl) (vs := [some (.ref (G.1 c2)), some (.int v4)]) rfl ?_
    refine a_aload_n eX3_isNumber_0 rfl ?_
    refine a_iload_n eX3_isNumber_1 rfl ?_
    refine qX3_22 hc2 rfl eX3_isNumber_2 (Nat.le_of_ble_eq_true rfl) ?_
    refine Tr.of rfl (Nat.le_of_ble_eq_true rfl) (vs := [some (.ref (G.1 c2)), some (.int v4)]) rfl ?_
    refine a_iload_n eX3_hasPlace_0 rfl ?_
    refine a_if_lt (tgt := 16) eX3_hasPlace_1 (by decide) (fun w2 => ?_) (fun w2 => ?_)
    · replace hv := hv.1 w2
      refine a_iconst (v := 0) eX3_hasPlace_16 (by decide) ?_
      refine a_iret eX3_hasPlace_17 rfl rfl (ret_i ?_)
      refine a_if_eq (tgt := 23) eX3_isNumber_5 (by decide) (fun _ => ?_) (fun h => absurd h (by decide))
      refine a_iconst (v := 0) eX3_isNumber_23 (by decide) ?_
      refine a_iret eX3_isNumber_24 rfl rfl (ret_i ?_)
      refine a_if_eq (tgt := 102) eX7_pour_50 (by decide) (fun _ => ?_) (fun h => absurd h (by decide))
      refine a_iinc (v := 1) (vs' := [some (.ref (G.1 0)), none, some (.ref (G.1 c2)), some (.int v3), some (.int (v4 + 1)), none]) eX7_pour_102 rfl rfl (by decide) rfl ?_
      refine a_goto (tgt := 32) eX7_pour_105 (by decide) ?_
      exact a_weak [true, false, true, true, true, false] rfl rfl hv
    · replace hv := hv.2 w2
      refine a_iload_n eX3_hasPlace_4 rfl ?_
      refine a_aload_n eX3_hasPlace_5 rfl ?_
      refine gX3_1 hc2 eX3_hasPlace_6 fl_X3_19 ?_
      refine a_icmp_ge (tgt := 16) eX3_hasPlace_9 (by decide) (fun w3 => ?_) (fun w3 => ?_)
      · replace hv := hv.1 w3
        refine a_iconst (v := 0) eX3_hasPlace_16 (by decide) ?_
        refine a_iret eX3_hasPlace_17 rfl rfl (ret_i ?_)
        refine a_if_eq (tgt := 23) eX3_isNumber_5 (by decide) (fun _ => ?_) (fun h => absurd h (by decide))
        refine a_iconst (v := 0) eX3_isNumber_23 (by decide) ?_
        refine a_iret eX3_isNumber_24 rfl rfl (ret_i ?_)
        refine a_if_eq (tgt := 102) eX7_pour_50 (by decide) (fun _ => ?_) (fun h => absurd h (by decide))
        refine a_iinc (v := 1) (vs' := [some (.ref (G.1 0)), none, some (.ref (G.1 c2)), some (.int v3), some (.int (v4 + 1)), none]) eX7_pour_102 rfl rfl (by decide) rfl ?_
        refine a_goto (tgt := 32) eX7_pour_105 (by decide) ?_
        exact a_weak [true, false, true, true, true, false] rfl rfl hv
      · replace hv := hv.2 w3
        refine a_iconst (v := 1) eX3_hasPlace_12 (by decide) ?_
        refine a_goto (tgt := 17) eX3_hasPlace_13 (by decide) ?_
        refine a_iret eX3_hasPlace_17 rfl rfl (ret_i ?_)
        refine a_if_eq (tgt := 23) eX3_isNumber_5 (by decide) (fun h => absurd h (by decide)) (fun _ => ?_)
        refine a_aload_n eX3_isNumber_8 rfl ?_
        refine gX3_2 hc2 eX3_isNumber_9 fl_X3_15 ?_
        refine a_iload_n eX3_isNumber_12 rfl ?_
        obtain ⟨h4, hv⟩ := hv
        refine a_iald eX3_isNumber_13 (sh_1 hc2) (sh_in1 hc2) h4 ?_
        refine a_ldc eX3_isNumber_14 kc_X3_26 ?_
        refine a_icmp_eq (tgt := 23) eX3_isNumber_16 (by decide) (fun w5 => ?_) (fun w5 => ?_)
        · replace hv := hv.1 w5
          refine a_iconst (v := 0) eX3_isNumber_23 (by decide) ?_
          refine a_iret eX3_isNumber_24 rfl rfl (ret_i ?_)
          refine a_if_eq (tgt := 102) eX7_pour_50 (by decide) (fun _ => ?_) (fun h => absurd h (by decide))
          refine a_iinc (v := 1) (vs' := [some (.ref (G.1 0)), none, some (.ref (G.1 c2)), some (.int v3), some (.int (v4 + 1)), none]) eX7_pour_102 rfl rfl (by decide) rfl ?_
          refine a_goto (tgt := 32) eX7_pour_105 (by decide) ?_
          exact a_weak [true, false, true, true, true, false] rfl rfl hv
        · replace hv := hv.2 w5
          refine a_iconst (v := 1) eX3_isNumber_19 (by decide) ?_
          refine a_goto (tgt := 24) eX3_isNumber_20 (by decide) ?_
          refine a_iret eX3_isNumber_24 rfl rfl (ret_i ?_)
          refine a_if_eq (tgt := 102) eX7_pour_50 (by decide) (fun h => absurd h (by decide)) (fun _ => ?_)
          refine a_aload_n eX7_pour_53 rfl ?_
          refine gX3_2 hc2 eX7_pour_54 fl_X7_236 ?_
          refine a_iload eX7_pour_57 rfl ?_
          obtain ⟨h6, hv⟩ := hv
          refine a_iald eX7_pour_59 (sh_1 hc2) (sh_in1 hc2) h6 ?_
          refine a_bipush (v := 99) eX7_pour_60 (by decide) ?_
          refine qX7_284 rfl eX7_pour_62 (Nat.le_of_ble_eq_true rfl) ?_
          refine Tr.of rfl (Nat.le_of_ble_eq_true rfl) (vs := [some (.int (M (c2 + 1) (ix v4))), some (.int 99)]) rfl ?_
          refine a_iconst (v := 0) eX7_within_0 (by decide) ?_
          refine a_iload_n eX7_within_1 rfl ?_
          refine a_iload_n eX7_within_2 rfl ?_
          refine a_mmin eX7_within_3 ml_X7_151 stMin inMa cwMin (by omega) (Nat.le_of_ble_eq_true rfl) ?_
          refine a_mmax eX7_within_6 ml_X7_324 stMax inMa cwMax (by omega) (Nat.le_of_ble_eq_true rfl) ?_
          refine a_iret eX7_within_9 rfl rfl (ret_i ?_)
          refine a_istore (vs' := [some (.ref (G.1 0)), none, some (.ref (G.1 c2)), some (.int v3), some (.int v4), some (.int (if 0 < (if 99 < (M (c2 + 1) (ix v4)) then 99 else (M (c2 + 1) (ix v4))) then (if 99 < (M (c2 + 1) (ix v4)) then 99 else (M (c2 + 1) (ix v4))) else 0))]) eX7_pour_65 rfl (Nat.le_of_ble_eq_true rfl) rfl ?_
          refine a_iload_n eX7_pour_67 rfl ?_
          refine a_iload eX7_pour_68 rfl ?_
          refine a_aload_n eX7_pour_70 rfl ?_
          refine gX7_2 eX7_pour_71 fl_X7_28 ?_
          refine gX1_4 ld30 eX7_pour_74 fl_X7_91 ?_
          refine a_iload eX7_pour_77 rfl ?_
          obtain ⟨h7, hv⟩ := hv
          refine a_iald eX7_pour_79 (ld_8 ld30 3 (by decide)) (ld_in ld30 3 (by decide)) h7 ?_
          refine a_icmp_ne (tgt := 87) eX7_pour_80 (by decide) (fun w8 => ?_) (fun w8 => ?_)
          · replace hv := hv.2 w8
            refine a_iconst (v := 1) eX7_pour_87 (by decide) ?_
            refine a_iadd eX7_pour_88 ?_
            refine a_istore_n (vs' := [some (.ref (G.1 0)), none, some (.ref (G.1 c2)), some (.int (v3 + 1)), some (.int v4), some (.int (if 0 < (if 99 < (M (c2 + 1) (ix v4)) then 99 else (M (c2 + 1) (ix v4))) then (if 99 < (M (c2 + 1) (ix v4)) then 99 else (M (c2 + 1) (ix v4))) else 0))]) eX7_pour_89 rfl (Nat.le_of_ble_eq_true rfl) rfl ?_
            refine a_aload_n eX7_pour_90 rfl ?_
            refine gX7_2 eX7_pour_91 fl_X7_28 ?_
            refine gX1_4 ld30 eX7_pour_94 fl_X7_91 ?_
            refine a_iload eX7_pour_97 rfl ?_
            refine a_iload eX7_pour_99 rfl ?_
            obtain ⟨h9, hv⟩ := hv
            refine a_iast eX7_pour_101 (ld_8 ld30 3 (by decide)) (ld_in ld30 3 (by decide)) h9 ?_
            refine a_nm (fun M10 eM10 => ?_)
            replace hv := hv M10 eM10
            refine a_iinc (v := 1) (vs' := [some (.ref (G.1 0)), none, some (.ref (G.1 c2)), some (.int (v3 + 1)), some (.int (v4 + 1)), some (.int (if 0 < (if 99 < (M (c2 + 1) (ix v4)) then 99 else (M (c2 + 1) (ix v4))) then (if 99 < (M (c2 + 1) (ix v4)) then 99 else (M (c2 + 1) (ix v4))) else 0))]) eX7_pour_102 rfl rfl (by decide) rfl ?_
            refine a_goto (tgt := 32) eX7_pour_105 (by decide) ?_
            exact a_weak [true, false, true, true, true, false] rfl rfl hv
          · replace hv := hv.1 w8
            refine a_iconst (v := 0) eX7_pour_83 (by decide) ?_
            refine a_goto (tgt := 88) eX7_pour_84 (by decide) ?_
            refine a_iadd eX7_pour_88 ?_
            refine a_istore_n (vs' := [some (.ref (G.1 0)), none, some (.ref (G.1 c2)), some (.int (v3 + 0)), some (.int v4), some (.int (if 0 < (if 99 < (M (c2 + 1) (ix v4)) then 99 else (M (c2 + 1) (ix v4))) then (if 99 < (M (c2 + 1) (ix v4)) then 99 else (M (c2 + 1) (ix v4))) else 0))]) eX7_pour_89 rfl (Nat.le_of_ble_eq_true rfl) rfl ?_
            refine a_aload_n eX7_pour_90 rfl ?_
            refine gX7_2 eX7_pour_91 fl_X7_28 ?_
            refine gX1_4 ld30 eX7_pour_94 fl_X7_91 ?_
            refine a_iload eX7_pour_97 rfl ?_
            refine a_iload eX7_pour_99 rfl ?_
            obtain ⟨h11, hv⟩ := hv
            refine a_iast eX7_pour_101 (ld_8 ld30 3 (by decide)) (ld_in ld30 3 (by decide)) h11 ?_
            refine a_nm (fun M12 eM12 => ?_)
            replace hv := hv M12 eM12
            refine a_iinc (v := 1) (vs' := [some (.ref (G.1 0)), none, some (.ref (G.1 c2)), some (.int (v3 + 0)), some (.int (v4 + 1)), some (.int (if 0 < (if 99 < (M (c2 + 1) (ix v4)) then 99 else (M (c2 + 1) (ix v4))) then (if 99 < (M (c2 + 1) (ix v4)) then 99 else (M (c2 + 1) (ix v4))) else 0))]) eX7_pour_102 rfl rfl (by decide) rfl ?_
            refine a_goto (tgt := 32) eX7_pour_105 (by decide) ?_
            exact a_weak [true, false, true, true, true, false] rfl rfl hv
theorem tX7_reads {l : Launch} {G : GT} {d : Nat} {M : Mem} {R : Option Value → Mem → Prop} {v1 : Int32} (hv : (v1 < 0 → R (some (.int (-1000000001))) M) ∧ (¬ (v1 < 0) → (4 ≤ v1 → R (some (.int (-1000000001))) M) ∧ (¬ (4 ≤ v1) → vp_in v1 4 ∧ ((M (70 + 2 * ix v1) 0) = (-1) → R (some (.int (-1000000011))) M) ∧ (¬ ((M (70 + 2 * ix v1) 0) = (-1)) → At l G (d + 4) mX7_reads 29 [some (.ref (G.1 0)), none, some (.ref (G.1 (70 + 2 * ix v1))), some (.int 0)] [] M R)))) : Tr l G (d + 4) mX7_reads [.ref (G.1 0), .int v1] M R := by
  refine Tr.of rfl (Nat.le_of_ble_eq_true rfl) (vs := [some (.ref (G.1 0)), some (.int v1), none, none]) rfl ?_
  refine a_iload_n eX7_reads_0 rfl ?_
  refine qX7_218 rfl eX7_reads_1 (Nat.le_of_ble_eq_true rfl) ?_
  refine Tr.of rfl (Nat.le_of_ble_eq_true rfl) (vs := [some (.int v1)]) rfl ?_
  refine a_iload_n eX7_isSheet_0 rfl ?_
  refine a_if_lt (tgt := 13) eX7_isSheet_1 (by decide) (fun w1 => ?_) (fun w1 => ?_)
  · replace hv := hv.1 w1
    refine a_iconst (v := 0) eX7_isSheet_13 (by decide) ?_
    refine a_iret eX7_isSheet_14 rfl rfl (ret_i ?_)
    refine a_if_ne (tgt := 10) eX7_reads_4 (by decide) (fun h => absurd h (by decide)) (fun _ => ?_)
    refine a_ldc eX7_reads_7 kc_X7_73 ?_
    exact a_iret eX7_reads_9 rfl rfl hv
  · replace hv := hv.2 w1
    refine a_iload_n eX7_isSheet_4 rfl ?_
    refine a_iconst (v := 4) eX7_isSheet_5 (by decide) ?_
    refine a_icmp_ge (tgt := 13) eX7_isSheet_6 (by decide) (fun w2 => ?_) (fun w2 => ?_)
    · replace hv := hv.1 w2
      refine a_iconst (v := 0) eX7_isSheet_13 (by decide) ?_
      refine a_iret eX7_isSheet_14 rfl rfl (ret_i ?_)
      refine a_if_ne (tgt := 10) eX7_reads_4 (by decide) (fun h => absurd h (by decide)) (fun _ => ?_)
      refine a_ldc eX7_reads_7 kc_X7_73 ?_
      exact a_iret eX7_reads_9 rfl rfl hv
    · replace hv := hv.2 w2
      refine a_iconst (v := 1) eX7_isSheet_9 (by decide) ?_
      refine a_goto (tgt := 14) eX7_isSheet_10 (by decide) ?_
      refine a_iret eX7_isSheet_14 rfl rfl (ret_i ?_)
      refine a_if_ne (tgt := 10) eX7_reads_4 (by decide) (fun _ => ?_) (fun h => absurd h (by decide))
      refine a_aload_n eX7_reads_10 rfl ?_
      refine gX7_8 eX7_reads_11 fl_X7_54 ?_
      refine a_iload_n eX7_reads_14 rfl ?_
      obtain ⟨h3, hv⟩ := hv
      refine a_aald_sheets eX7_reads_15 h3 ?_
      refine a_astore_n (vs' := [some (.ref (G.1 0)), some (.int v1), some (.ref (G.1 (70 + 2 * ix v1))), none]) eX7_reads_16 rfl (Nat.le_of_ble_eq_true rfl) rfl ?_
      refine a_aload_n eX7_reads_17 rfl ?_
      refine qX7_221 (sht_is (vp_lt h3)) rfl eX7_reads_18 (Nat.le_of_ble_eq_true rfl) ?_
      refine Tr.of rfl (Nat.le_of_ble_eq_true rfl) (vs := [some (.ref (G.1 (70 + 2 * ix v1)))]) rfl ?_
      refine a_aload_n eX3_isMissing_0 rfl ?_
      refine gX3_0 (sht_is (vp_lt h3)) eX3_isMissing_1 fl_X3_9 ?_
      refine a_iconst (v := (-1)) eX3_isMissing_4 (by decide) ?_
      refine a_icmp_ne (tgt := 12) eX3_isMissing_5 (by decide) (fun w4 => ?_) (fun w4 => ?_)
      · replace hv := hv.2 w4
        refine a_iconst (v := 0) eX3_isMissing_12 (by decide) ?_
        refine a_iret eX3_isMissing_13 rfl rfl (ret_i ?_)
        refine a_if_eq (tgt := 27) eX7_reads_21 (by decide) (fun _ => ?_) (fun h => absurd h (by decide))
        refine a_iconst (v := 0) eX7_reads_27 (by decide) ?_
        refine a_istore_n (vs' := [some (.ref (G.1 0)), some (.int v1), some (.ref (G.1 (70 + 2 * ix v1))), some (.int 0)]) eX7_reads_28 rfl (Nat.le_of_ble_eq_true rfl) rfl ?_
        exact a_weak [true, false, true, true] rfl rfl hv
      · replace hv := hv.1 w4
        refine a_iconst (v := 1) eX3_isMissing_8 (by decide) ?_
        refine a_goto (tgt := 13) eX3_isMissing_9 (by decide) ?_
        refine a_iret eX3_isMissing_13 rfl rfl (ret_i ?_)
        refine a_if_eq (tgt := 27) eX7_reads_21 (by decide) (fun h => absurd h (by decide)) (fun _ => ?_)
        refine a_ldc eX7_reads_24 kc_X7_225 ?_
        exact a_iret eX7_reads_26 rfl rfl hv
theorem bX7_reads_29 {l : Launch} {G : GT} {d : Nat} {M : Mem} {R : Option Value → Mem → Prop} {c2 : Nat} (hc2 : IsSh c2) {v3 : Int32} (hv : ((M c2 1) ≤ v3 → R (some (.int (-1000000005))) M) ∧ (¬ ((M c2 1) ≤ v3) → (v3 < 0 → At l G (d + 4) mX7_reads 29 [some (.ref (G.1 0)), none, some (.ref (G.1 c2)), some (.int (v3 + 1))] [] M R) ∧ (¬ (v3 < 0) → ((M c2 1) ≤ v3 → At l G (d + 4) mX7_reads 29 [some (.ref (G.1 0)), none, some (.ref (G.1 c2)), some (.int (v3 + 1))] [] M R) ∧ (¬ ((M c2 1) ≤ v3) → vp_in v3 24 ∧ ((M (c2 + 1) (ix v3)) = (-1000000005) → At l G (d + 4) mX7_reads 29 [some (.ref (G.1 0)), none, some (.ref (G.1 c2)), some (.int (v3 + 1))] [] M R) ∧ (¬ ((M (c2 + 1) (ix v3)) = (-1000000005)) → (v3 < 0 → R (some (.int v3)) M) ∧ (¬ (v3 < 0) → ((M 30 1) ≤ v3 → R (some (.int v3)) M) ∧ (¬ ((M 30 1) ≤ v3) → vp_in v3 24 ∧ vp_in v3 8 ∧ Tr l G (d + 3) mJ6_bitCount_0f7a4 [.int (M 34 (ix v3))] M (kI fun q M' => At l G (d + 4) mX7_reads 71 [some (.ref (G.1 0)), none, some (.ref (G.1 c2)), some (.int v3)] [.int q, .int (M (c2 + 1) (ix v3))] M' R)))))))) : At l G (d + 4) mX7_reads 29 [some (.ref (G.1 0)), none, some (.ref (G.1 c2)), some (.int v3)] [] M R := by
  refine a_iload_n eX7_reads_29 rfl ?_
  refine a_aload_n eX7_reads_30 rfl ?_
  refine gX3_1 hc2 eX7_reads_31 fl_X7_230 ?_
  refine a_icmp_ge (tgt := 82) eX7_reads_34 (by decide) (fun w1 => ?_) (fun w1 => ?_)
  · replace hv := hv.1 w1
    refine a_ldc eX7_reads_82 kc_X7_205 ?_
    exact a_iret eX7_reads_84 rfl rfl hv
  · replace hv := hv.2 w1
    refine a_aload_n eX7_reads_37 rfl ?_
    refine a_iload_n eX7_reads_38 rfl ?_
    refine qX7_233 hc2 rfl eX7_reads_39 (Nat.le_of_ble_eq_true rfl) ?_
    refine Tr.of rfl (Nat.le_of_ble_eq_true rfl) (vs := [some (.ref (G.1 c2)), some (.int v3)]) rfl ?_
    refine a_aload_n eX3_isNumber_0 rfl ?_
    refine a_iload_n eX3_isNumber_1 rfl ?_
    refine qX3_22 hc2 rfl eX3_isNumber_2 (Nat.le_of_ble_eq_true rfl) ?_
    refine Tr.of rfl (Nat.le_of_ble_eq_true rfl) (vs := [some (.ref (G.1 c2)), some (.int v3)]) rfl ?_
    refine a_iload_n eX3_hasPlace_0 rfl ?_
    refine a_if_lt (tgt := 16) eX3_hasPlace_1 (by decide) (fun w2 => ?_) (fun w2 => ?_)
    · replace hv := hv.1 w2
      refine a_iconst (v := 0) eX3_hasPlace_16 (by decide) ?_
      refine a_iret eX3_hasPlace_17 rfl rfl (ret_i ?_)
      refine a_if_eq (tgt := 23) eX3_isNumber_5 (by decide) (fun _ => ?_) (fun h => absurd h (by decide))
      refine a_iconst (v := 0) eX3_isNumber_23 (by decide) ?_
      refine a_iret eX3_isNumber_24 rfl rfl (ret_i ?_)
      refine a_if_eq (tgt := 76) eX7_reads_42 (by decide) (fun _ => ?_) (fun h => absurd h (by decide))
      refine a_iinc (v := 1) (vs' := [some (.ref (G.1 0)), none, some (.ref (G.1 c2)), some (.int (v3 + 1))]) eX7_reads_76 rfl rfl (by decide) rfl ?_
      refine a_goto (tgt := 29) eX7_reads_79 (by decide) ?_
      exact a_weak [true, false, true, true] rfl rfl hv
    · replace hv := hv.2 w2
      refine a_iload_n eX3_hasPlace_4 rfl ?_
      refine a_aload_n eX3_hasPlace_5 rfl ?_
      refine gX3_1 hc2 eX3_hasPlace_6 fl_X3_19 ?_
      refine a_icmp_ge (tgt := 16) eX3_hasPlace_9 (by decide) (fun w3 => ?_) (fun w3 => ?_)
      · replace hv := hv.1 w3
        refine a_iconst (v := 0) eX3_hasPlace_16 (by decide) ?_
        refine a_iret eX3_hasPlace_17 rfl rfl (ret_i ?_)
        refine a_if_eq (tgt := 23) eX3_isNumber_5 (by decide) (fun _ => ?_) (fun h => absurd h (by decide))
        refine a_iconst (v := 0) eX3_isNumber_23 (by decide) ?_
        refine a_iret eX3_isNumber_24 rfl rfl (ret_i ?_)
        refine a_if_eq (tgt := 76) eX7_reads_42 (by decide) (fun _ => ?_) (fun h => absurd h (by decide))
        refine a_iinc (v := 1) (vs' := [some (.ref (G.1 0)), none, some (.ref (G.1 c2)), some (.int (v3 + 1))]) eX7_reads_76 rfl rfl (by decide) rfl ?_
        refine a_goto (tgt := 29) eX7_reads_79 (by decide) ?_
        exact a_weak [true, false, true, true] rfl rfl hv
      · replace hv := hv.2 w3
        refine a_iconst (v := 1) eX3_hasPlace_12 (by decide) ?_
        refine a_goto (tgt := 17) eX3_hasPlace_13 (by decide) ?_
        refine a_iret eX3_hasPlace_17 rfl rfl (ret_i ?_)
        refine a_if_eq (tgt := 23) eX3_isNumber_5 (by decide) (fun h => absurd h (by decide)) (fun _ => ?_)
        refine a_aload_n eX3_isNumber_8 rfl ?_
        refine gX3_2 hc2 eX3_isNumber_9 fl_X3_15 ?_
        refine a_iload_n eX3_isNumber_12 rfl ?_
        obtain ⟨h4, hv⟩ := hv
        refine a_iald eX3_isNumber_13 (sh_1 hc2) (sh_in1 hc2) h4 ?_
        refine a_ldc eX3_isNumber_14 kc_X3_26 ?_
        refine a_icmp_eq (tgt := 23) eX3_isNumber_16 (by decide) (fun w5 => ?_) (fun w5 => ?_)
        · replace hv := hv.1 w5
          refine a_iconst (v := 0) eX3_isNumber_23 (by decide) ?_
          refine a_iret eX3_isNumber_24 rfl rfl (ret_i ?_)
          refine a_if_eq (tgt := 76) eX7_reads_42 (by decide) (fun _ => ?_) (fun h => absurd h (by decide))
          refine a_iinc (v := 1) (vs' := [some (.ref (G.1 0)), none, some (.ref (G.1 c2)), some (.int (v3 + 1))]) eX7_reads_76 rfl rfl (by decide) rfl ?_
          refine a_goto (tgt := 29) eX7_reads_79 (by decide) ?_
          exact a_weak [true, false, true, true] rfl rfl hv
        · replace hv := hv.2 w5
          refine a_iconst (v := 1) eX3_isNumber_19 (by decide) ?_
          refine a_goto (tgt := 24) eX3_isNumber_20 (by decide) ?_
          refine a_iret eX3_isNumber_24 rfl rfl (ret_i ?_)
          refine a_if_eq (tgt := 76) eX7_reads_42 (by decide) (fun h => absurd h (by decide)) (fun _ => ?_)
          refine a_aload_n eX7_reads_45 rfl ?_
          refine a_iload_n eX7_reads_46 rfl ?_
          refine qX7_82 rfl eX7_reads_47 (Nat.le_of_ble_eq_true rfl) ?_
          refine Tr.of rfl (Nat.le_of_ble_eq_true rfl) (vs := [some (.ref (G.1 0)), some (.int v3)]) rfl ?_
          refine a_iload_n eX7_isOne_0 rfl ?_
          refine a_if_lt (tgt := 19) eX7_isOne_1 (by decide) (fun w6 => ?_) (fun w6 => ?_)
          · replace hv := hv.1 w6
            refine a_iconst (v := 0) eX7_isOne_19 (by decide) ?_
            refine a_iret eX7_isOne_20 rfl rfl (ret_i ?_)
            refine a_if_eq (tgt := 74) eX7_reads_50 (by decide) (fun _ => ?_) (fun h => absurd h (by decide))
            refine a_iload_n eX7_reads_74 rfl ?_
            exact a_iret eX7_reads_75 rfl rfl hv
          · replace hv := hv.2 w6
            refine a_iload_n eX7_isOne_4 rfl ?_
            refine a_aload_n eX7_isOne_5 rfl ?_
            refine gX7_2 eX7_isOne_6 fl_X7_28 ?_
            refine gX1_1 ld30 eX7_isOne_9 fl_X7_148 ?_
            refine a_icmp_ge (tgt := 19) eX7_isOne_12 (by decide) (fun w7 => ?_) (fun w7 => ?_)
            · replace hv := hv.1 w7
              refine a_iconst (v := 0) eX7_isOne_19 (by decide) ?_
              refine a_iret eX7_isOne_20 rfl rfl (ret_i ?_)
              refine a_if_eq (tgt := 74) eX7_reads_50 (by decide) (fun _ => ?_) (fun h => absurd h (by decide))
              refine a_iload_n eX7_reads_74 rfl ?_
              exact a_iret eX7_reads_75 rfl rfl hv
            · replace hv := hv.2 w7
              refine a_iconst (v := 1) eX7_isOne_15 (by decide) ?_
              refine a_goto (tgt := 20) eX7_isOne_16 (by decide) ?_
              refine a_iret eX7_isOne_20 rfl rfl (ret_i ?_)
              refine a_if_eq (tgt := 74) eX7_reads_50 (by decide) (fun h => absurd h (by decide)) (fun _ => ?_)
              refine a_aload_n eX7_reads_53 rfl ?_
              refine gX3_2 hc2 eX7_reads_54 fl_X7_236 ?_
              refine a_iload_n eX7_reads_57 rfl ?_
              obtain ⟨h8, hv⟩ := hv
              refine a_iald eX7_reads_58 (sh_1 hc2) (sh_in1 hc2) h8 ?_
              refine a_aload_n eX7_reads_59 rfl ?_
              refine gX7_2 eX7_reads_60 fl_X7_28 ?_
              refine gX1_5 ld30 eX7_reads_63 fl_X7_94 ?_
              refine a_iload_n eX7_reads_66 rfl ?_
              obtain ⟨h9, hv⟩ := hv
              refine a_iald eX7_reads_67 (ld_8 ld30 4 (by decide)) (ld_in ld30 4 (by decide)) h9 ?_
              exact qX7_121 rfl eX7_reads_68 (Nat.le_of_ble_eq_true rfl) (tr_I [true, false, true, true] rfl rfl hv)
theorem bX7_reads_71 {l : Launch} {G : GT} {d : Nat} {M : Mem} {R : Option Value → Mem → Prop} {c2 : Nat} (hc2 : IsSh c2) {v3 : Int32} {r : Int32} {t1 : Int32} (hv : (t1 = r → At l G (d + 4) mX7_reads 29 [some (.ref (G.1 0)), none, some (.ref (G.1 c2)), some (.int (v3 + 1))] [] M R) ∧ (¬ (t1 = r) → R (some (.int v3)) M)) : At l G (d + 4) mX7_reads 71 [some (.ref (G.1 0)), none, some (.ref (G.1 c2)), some (.int v3)] [.int r, .int t1] M R := by
  refine a_icmp_eq (tgt := 76) eX7_reads_71 (by decide) (fun w1 => ?_) (fun w1 => ?_)
  · replace hv := hv.1 w1
    refine a_iinc (v := 1) (vs' := [some (.ref (G.1 0)), none, some (.ref (G.1 c2)), some (.int (v3 + 1))]) eX7_reads_76 rfl rfl (by decide) rfl ?_
    refine a_goto (tgt := 29) eX7_reads_79 (by decide) ?_
    exact a_weak [true, false, true, true] rfl rfl hv
  · replace hv := hv.2 w1
    refine a_iload_n eX7_reads_74 rfl ?_
    exact a_iret eX7_reads_75 rfl rfl hv
theorem tX7_copy {l : Launch} {G : GT} {d : Nat} {M : Mem} {R : Option Value → Mem → Prop} {v1 : Int32} {v2 : Int32} {v3 : Int32} {v4 : Int32} {v5 : Int32} (hv : (v1 < 0 → R (some (.int (-1000000001))) M) ∧ (¬ (v1 < 0) → (4 ≤ v1 → R (some (.int (-1000000001))) M) ∧ (¬ (4 ≤ v1) → (v3 < 0 → R (some (.int (-1000000001))) M) ∧ (¬ (v3 < 0) → (4 ≤ v3 → R (some (.int (-1000000001))) M) ∧ (¬ (4 ≤ v3) → vp_in v1 4 ∧ vp_in v3 4 ∧ ((M (70 + 2 * ix v1) 0) = (-1) → R (some (.int (-1000000011))) M) ∧ (¬ ((M (70 + 2 * ix v1) 0) = (-1)) → ((M (70 + 2 * ix v3) 0) = (-1) → R (some (.int (-1000000011))) M) ∧ (¬ ((M (70 + 2 * ix v3) 0) = (-1)) → ((M (70 + 2 * ix v1) 0) = (M (70 + 2 * ix v3) 0) → Tr l G (d + 3) mX3_hasPlaces [.ref (G.1 (70 + 2 * ix v1)), .int v2, .int v5] M (kI fun q M' => At l G (d + 4) mX7_copy 76 [none, none, some (.int v2), none, some (.int v4), some (.int v5), some (.ref (G.1 (70 + 2 * ix v1))), some (.ref (G.1 (70 + 2 * ix v3)))] [.int q] M' R)) ∧ (¬ ((M (70 + 2 * ix v1) 0) = (M (70 + 2 * ix v3) 0)) → R (some (.int (-1000000012))) M)))))))) : Tr l G (d + 4) mX7_copy [.ref (G.1 0), .int v1, .int v2, .int v3, .int v4, .int v5] M R := by
  refine Tr.of rfl (Nat.le_of_ble_eq_true rfl) (vs := [some (.ref (G.1 0)), some (.int v1), some (.int v2), some (.int v3), some (.int v4), some (.int v5), none, none]) rfl ?_
  refine a_iload_n eX7_copy_0 rfl ?_
  refine qX7_218 rfl eX7_copy_1 (Nat.le_of_ble_eq_true rfl) ?_
  refine Tr.of rfl (Nat.le_of_ble_eq_true rfl) (vs := [some (.int v1)]) rfl ?_
  refine a_iload_n eX7_isSheet_0 rfl ?_
  refine a_if_lt (tgt := 13) eX7_isSheet_1 (by decide) (fun w1 => ?_) (fun w1 => ?_)
  · replace hv := hv.1 w1
    refine a_iconst (v := 0) eX7_isSheet_13 (by decide) ?_
    refine a_iret eX7_isSheet_14 rfl rfl (ret_i ?_)
    refine a_if_eq (tgt := 14) eX7_copy_4 (by decide) (fun _ => ?_) (fun h => absurd h (by decide))
    refine a_ldc eX7_copy_14 kc_X7_73 ?_
    exact a_iret eX7_copy_16 rfl rfl hv
  · replace hv := hv.2 w1
    refine a_iload_n eX7_isSheet_4 rfl ?_
    refine a_iconst (v := 4) eX7_isSheet_5 (by decide) ?_
    refine a_icmp_ge (tgt := 13) eX7_isSheet_6 (by decide) (fun w2 => ?_) (fun w2 => ?_)
    · replace hv := hv.1 w2
      refine a_iconst (v := 0) eX7_isSheet_13 (by decide) ?_
      refine a_iret eX7_isSheet_14 rfl rfl (ret_i ?_)
      refine a_if_eq (tgt := 14) eX7_copy_4 (by decide) (fun _ => ?_) (fun h => absurd h (by decide))
      refine a_ldc eX7_copy_14 kc_X7_73 ?_
      exact a_iret eX7_copy_16 rfl rfl hv
    · replace hv := hv.2 w2
      refine a_iconst (v := 1) eX7_isSheet_9 (by decide) ?_
      refine a_goto (tgt := 14) eX7_isSheet_10 (by decide) ?_
      refine a_iret eX7_isSheet_14 rfl rfl (ret_i ?_)
      refine a_if_eq (tgt := 14) eX7_copy_4 (by decide) (fun h => absurd h (by decide)) (fun _ => ?_)
      refine a_iload_n eX7_copy_7 rfl ?_
      refine qX7_218 rfl eX7_copy_8 (Nat.le_of_ble_eq_true rfl) ?_
      refine Tr.of rfl (Nat.le_of_ble_eq_true rfl) (vs := [some (.int v3)]) rfl ?_
      refine a_iload_n eX7_isSheet_0 rfl ?_
      refine a_if_lt (tgt := 13) eX7_isSheet_1 (by decide) (fun w3 => ?_) (fun w3 => ?_)
      · replace hv := hv.1 w3
        refine a_iconst (v := 0) eX7_isSheet_13 (by decide) ?_
        refine a_iret eX7_isSheet_14 rfl rfl (ret_i ?_)
        refine a_if_ne (tgt := 17) eX7_copy_11 (by decide) (fun h => absurd h (by decide)) (fun _ => ?_)
        refine a_ldc eX7_copy_14 kc_X7_73 ?_
        exact a_iret eX7_copy_16 rfl rfl hv
      · replace hv := hv.2 w3
        refine a_iload_n eX7_isSheet_4 rfl ?_
        refine a_iconst (v := 4) eX7_isSheet_5 (by decide) ?_
        refine a_icmp_ge (tgt := 13) eX7_isSheet_6 (by decide) (fun w4 => ?_) (fun w4 => ?_)
        · replace hv := hv.1 w4
          refine a_iconst (v := 0) eX7_isSheet_13 (by decide) ?_
          refine a_iret eX7_isSheet_14 rfl rfl (ret_i ?_)
          refine a_if_ne (tgt := 17) eX7_copy_11 (by decide) (fun h => absurd h (by decide)) (fun _ => ?_)
          refine a_ldc eX7_copy_14 kc_X7_73 ?_
          exact a_iret eX7_copy_16 rfl rfl hv
        · replace hv := hv.2 w4
          refine a_iconst (v := 1) eX7_isSheet_9 (by decide) ?_
          refine a_goto (tgt := 14) eX7_isSheet_10 (by decide) ?_
          refine a_iret eX7_isSheet_14 rfl rfl (ret_i ?_)
          refine a_if_ne (tgt := 17) eX7_copy_11 (by decide) (fun _ => ?_) (fun h => absurd h (by decide))
          refine a_aload_n eX7_copy_17 rfl ?_
          refine gX7_8 eX7_copy_18 fl_X7_54 ?_
          refine a_iload_n eX7_copy_21 rfl ?_
          obtain ⟨h5, hv⟩ := hv
          refine a_aald_sheets eX7_copy_22 h5 ?_
          refine a_astore (vs' := [some (.ref (G.1 0)), some (.int v1), some (.int v2), some (.int v3), some (.int v4), some (.int v5), some (.ref (G.1 (70 + 2 * ix v1))), none]) eX7_copy_23 rfl (Nat.le_of_ble_eq_true rfl) rfl ?_
          refine a_aload_n eX7_copy_25 rfl ?_
          refine gX7_8 eX7_copy_26 fl_X7_54 ?_
          refine a_iload_n eX7_copy_29 rfl ?_
          obtain ⟨h6, hv⟩ := hv
          refine a_aald_sheets eX7_copy_30 h6 ?_
          refine a_astore (vs' := [some (.ref (G.1 0)), some (.int v1), some (.int v2), some (.int v3), some (.int v4), some (.int v5), some (.ref (G.1 (70 + 2 * ix v1))), some (.ref (G.1 (70 + 2 * ix v3)))]) eX7_copy_31 rfl (Nat.le_of_ble_eq_true rfl) rfl ?_
          refine a_aload eX7_copy_33 rfl ?_
          refine qX7_221 (sht_is (vp_lt h5)) rfl eX7_copy_35 (Nat.le_of_ble_eq_true rfl) ?_
          refine Tr.of rfl (Nat.le_of_ble_eq_true rfl) (vs := [some (.ref (G.1 (70 + 2 * ix v1)))]) rfl ?_
          refine a_aload_n eX3_isMissing_0 rfl ?_
          refine gX3_0 (sht_is (vp_lt h5)) eX3_isMissing_1 fl_X3_9 ?_
          refine a_iconst (v := (-1)) eX3_isMissing_4 (by decide) ?_
          refine a_icmp_ne (tgt := 12) eX3_isMissing_5 (by decide) (fun w7 => ?_) (fun w7 => ?_)
          · replace hv := hv.2 w7
            refine a_iconst (v := 0) eX3_isMissing_12 (by decide) ?_
            refine a_iret eX3_isMissing_13 rfl rfl (ret_i ?_)
            refine a_if_ne (tgt := 49) eX7_copy_38 (by decide) (fun h => absurd h (by decide)) (fun _ => ?_)
            refine a_aload eX7_copy_41 rfl ?_
            refine qX7_221 (sht_is (vp_lt h6)) rfl eX7_copy_43 (Nat.le_of_ble_eq_true rfl) ?_
            refine Tr.of rfl (Nat.le_of_ble_eq_true rfl) (vs := [some (.ref (G.1 (70 + 2 * ix v3)))]) rfl ?_
            refine a_aload_n eX3_isMissing_0 rfl ?_
            refine gX3_0 (sht_is (vp_lt h6)) eX3_isMissing_1 fl_X3_9 ?_
            refine a_iconst (v := (-1)) eX3_isMissing_4 (by decide) ?_
            refine a_icmp_ne (tgt := 12) eX3_isMissing_5 (by decide) (fun w8 => ?_) (fun w8 => ?_)
            · replace hv := hv.2 w8
              refine a_iconst (v := 0) eX3_isMissing_12 (by decide) ?_
              refine a_iret eX3_isMissing_13 rfl rfl (ret_i ?_)
              refine a_if_eq (tgt := 52) eX7_copy_46 (by decide) (fun _ => ?_) (fun h => absurd h (by decide))
              refine a_aload eX7_copy_52 rfl ?_
              refine gX3_0 (sht_is (vp_lt h5)) eX7_copy_54 fl_X7_279 ?_
              refine a_aload eX7_copy_57 rfl ?_
              refine gX3_0 (sht_is (vp_lt h6)) eX7_copy_59 fl_X7_279 ?_
              refine a_icmp_eq (tgt := 68) eX7_copy_62 (by decide) (fun w9 => ?_) (fun w9 => ?_)
              · replace hv := hv.1 w9
                refine a_aload eX7_copy_68 rfl ?_
                refine a_iload_n eX7_copy_70 rfl ?_
                refine a_iload eX7_copy_71 rfl ?_
                exact qX7_287 (sht_is (vp_lt h5)) rfl eX7_copy_73 (Nat.le_of_ble_eq_true rfl) (tr_I [false, false, true, false, true, true, true, true] rfl rfl hv)
              · replace hv := hv.2 w9
                refine a_ldc eX7_copy_65 kc_X7_113 ?_
                exact a_iret eX7_copy_67 rfl rfl hv
            · replace hv := hv.1 w8
              refine a_iconst (v := 1) eX3_isMissing_8 (by decide) ?_
              refine a_goto (tgt := 13) eX3_isMissing_9 (by decide) ?_
              refine a_iret eX3_isMissing_13 rfl rfl (ret_i ?_)
              refine a_if_eq (tgt := 52) eX7_copy_46 (by decide) (fun h => absurd h (by decide)) (fun _ => ?_)
              refine a_ldc eX7_copy_49 kc_X7_225 ?_
              exact a_iret eX7_copy_51 rfl rfl hv
          · replace hv := hv.1 w7
            refine a_iconst (v := 1) eX3_isMissing_8 (by decide) ?_
            refine a_goto (tgt := 13) eX3_isMissing_9 (by decide) ?_
            refine a_iret eX3_isMissing_13 rfl rfl (ret_i ?_)
            refine a_if_ne (tgt := 49) eX7_copy_38 (by decide) (fun _ => ?_) (fun h => absurd h (by decide))
            refine a_ldc eX7_copy_49 kc_X7_225 ?_
            exact a_iret eX7_copy_51 rfl rfl hv
theorem bX7_copy_76 {l : Launch} {G : GT} {d : Nat} {M : Mem} {R : Option Value → Mem → Prop} {v2 : Int32} {v4 : Int32} {v5 : Int32} {c6 : Nat} (hc6 : IsSh c6) {c7 : Nat} (hc7 : IsSh c7) {r : Int32} (hv : (r = 0 → R (some (.int (-1000000013))) M) ∧ (¬ (r = 0) → Tr l G (d + 3) mX3_hasPlaces [.ref (G.1 c7), .int v4, .int v5] M (kI fun q M' => At l G (d + 4) mX7_copy 88 [none, none, some (.int v2), none, some (.int v4), some (.int v5), some (.ref (G.1 c6)), some (.ref (G.1 c7))] [.int q] M' R))) : At l G (d + 4) mX7_copy 76 [none, none, some (.int v2), none, some (.int v4), some (.int v5), some (.ref (G.1 c6)), some (.ref (G.1 c7))] [.int r] M R := by
  refine a_if_eq (tgt := 91) eX7_copy_76 (by decide) (fun w1 => ?_) (fun w1 => ?_)
  · replace hv := hv.1 w1
    refine a_ldcw eX7_copy_91 kc_X7_278 ?_
    exact a_iret eX7_copy_94 rfl rfl hv
  · replace hv := hv.2 w1
    refine a_aload eX7_copy_79 rfl ?_
    refine a_iload eX7_copy_81 rfl ?_
    refine a_iload eX7_copy_83 rfl ?_
    exact qX7_287 hc7 rfl eX7_copy_85 (Nat.le_of_ble_eq_true rfl) (tr_I [false, false, true, false, true, true, true, true] rfl rfl hv)
theorem bX7_copy_88 {l : Launch} {G : GT} {d : Nat} {M : Mem} {R : Option Value → Mem → Prop} {v2 : Int32} {v4 : Int32} {v5 : Int32} {c6 : Nat} (hc6 : IsSh c6) {c7 : Nat} (hc7 : IsSh c7) {r : Int32} (hv : (r = 0 → R (some (.int (-1000000013))) M) ∧ (¬ (r = 0) → ¬ v2 < 0 ∧ ¬ v4 < 0 ∧ ¬ v5 < 0 ∧ ix v2 + ix v5 ≤ 24 ∧ ix v4 + ix v5 ≤ 24 ∧ ∀ M7 : Mem, M7 = ua M (c7 + 1) (va_cpy (M (c6 + 1)) (M (c7 + 1)) (ix v2) (ix v4) (ix v5)) → R (some (.int v5)) M7)) : At l G (d + 4) mX7_copy 88 [none, none, some (.int v2), none, some (.int v4), some (.int v5), some (.ref (G.1 c6)), some (.ref (G.1 c7))] [.int r] M R := by
  refine a_if_ne (tgt := 95) eX7_copy_88 (by decide) (fun w1 => ?_) (fun w1 => ?_)
  · replace hv := hv.2 w1
    refine a_aload eX7_copy_95 rfl ?_
    refine gX3_2 hc6 eX7_copy_97 fl_X7_236 ?_
    refine a_iload_n eX7_copy_100 rfl ?_
    refine a_aload eX7_copy_101 rfl ?_
    refine gX3_2 hc7 eX7_copy_103 fl_X7_236 ?_
    refine a_iload eX7_copy_106 rfl ?_
    refine a_iload eX7_copy_108 rfl ?_
    obtain ⟨h2, hv⟩ := hv
    obtain ⟨h3, hv⟩ := hv
    obtain ⟨h4, hv⟩ := hv
    obtain ⟨h5, hv⟩ := hv
    obtain ⟨h6, hv⟩ := hv
    refine a_copy eX7_copy_110 ml_X7_290 nmA stA inA (sh_1 hc6) (sh_in1 hc6) (sh_1 hc7) (sh_in1 hc7) h2 h3 h4 h5 h6 (by omega) (Nat.le_of_ble_eq_true rfl) ?_
    refine a_nm (fun M7 eM7 => ?_)
    replace hv := hv M7 eM7
    refine a_iload eX7_copy_113 rfl ?_
    exact a_iret eX7_copy_115 rfl rfl hv
  · replace hv := hv.1 w1
    refine a_ldcw eX7_copy_91 kc_X7_278 ?_
    exact a_iret eX7_copy_94 rfl rfl hv
theorem tX7_lay {l : Launch} {G : GT} {d : Nat} {M : Mem} {R : Option Value → Mem → Prop} {v1 : Int32} {v2 : Int32} {v3 : Int32} (hv : (v1 < 0 → At l G (d + 4) mX7_lay 16 [none, none, none, none, none, none] [] M R) ∧ (¬ (v1 < 0) → (5 ≤ v1 → At l G (d + 4) mX7_lay 16 [none, none, none, none, none, none] [] M R) ∧ (¬ (5 ≤ v1) → (v2 < 0 → At l G (d + 4) mX7_lay 16 [none, none, none, none, none, none] [] M R) ∧ (¬ (v2 < 0) → (v2 ≤ 3 → (v2 = 1 → (v3 < 0 → At l G (d + 4) mX7_lay 44 [none, none, none, none, none, none] [] M R) ∧ (¬ (v3 < 0) → ((M 30 1) ≤ v3 → At l G (d + 4) mX7_lay 44 [none, none, none, none, none, none] [] M R) ∧ (¬ ((M 30 1) ≤ v3) → At l G (d + 4) mX7_lay 32 [some (.ref (G.1 0)), some (.int v1), some (.int v2), some (.int v3), none, none] [] M R))) ∧ (¬ (v2 = 1) → At l G (d + 4) mX7_lay 32 [some (.ref (G.1 0)), some (.int v1), some (.int v2), some (.int v3), none, none] [] M R)) ∧ (¬ (v2 ≤ 3) → At l G (d + 4) mX7_lay 16 [none, none, none, none, none, none] [] M R))))) : Tr l G (d + 4) mX7_lay [.ref (G.1 0), .int v1, .int v2, .int v3] M R := by
  refine Tr.of rfl (Nat.le_of_ble_eq_true rfl) (vs := [some (.ref (G.1 0)), some (.int v1), some (.int v2), some (.int v3), none, none]) rfl ?_
  refine a_iload_n eX7_lay_0 rfl ?_
  refine qX7_296 rfl eX7_lay_1 (Nat.le_of_ble_eq_true rfl) ?_
  refine Tr.of rfl (Nat.le_of_ble_eq_true rfl) (vs := [some (.int v1)]) rfl ?_
  refine a_iload_n eX7_isSlot_0 rfl ?_
  refine a_if_lt (tgt := 13) eX7_isSlot_1 (by decide) (fun w1 => ?_) (fun w1 => ?_)
  · replace hv := hv.1 w1
    refine a_iconst (v := 0) eX7_isSlot_13 (by decide) ?_
    refine a_iret eX7_isSlot_14 rfl rfl (ret_i ?_)
    refine a_if_eq (tgt := 16) eX7_lay_4 (by decide) (fun _ => ?_) (fun h => absurd h (by decide))
    exact a_weak [false, false, false, false, false, false] rfl rfl hv
  · replace hv := hv.2 w1
    refine a_iload_n eX7_isSlot_4 rfl ?_
    refine a_iconst (v := 5) eX7_isSlot_5 (by decide) ?_
    refine a_icmp_ge (tgt := 13) eX7_isSlot_6 (by decide) (fun w2 => ?_) (fun w2 => ?_)
    · replace hv := hv.1 w2
      refine a_iconst (v := 0) eX7_isSlot_13 (by decide) ?_
      refine a_iret eX7_isSlot_14 rfl rfl (ret_i ?_)
      refine a_if_eq (tgt := 16) eX7_lay_4 (by decide) (fun _ => ?_) (fun h => absurd h (by decide))
      exact a_weak [false, false, false, false, false, false] rfl rfl hv
    · replace hv := hv.2 w2
      refine a_iconst (v := 1) eX7_isSlot_9 (by decide) ?_
      refine a_goto (tgt := 14) eX7_isSlot_10 (by decide) ?_
      refine a_iret eX7_isSlot_14 rfl rfl (ret_i ?_)
      refine a_if_eq (tgt := 16) eX7_lay_4 (by decide) (fun h => absurd h (by decide)) (fun _ => ?_)
      refine a_iload_n eX7_lay_7 rfl ?_
      refine a_if_lt (tgt := 16) eX7_lay_8 (by decide) (fun w3 => ?_) (fun w3 => ?_)
      · replace hv := hv.1 w3
        exact a_weak [false, false, false, false, false, false] rfl rfl hv
      · replace hv := hv.2 w3
        refine a_iload_n eX7_lay_11 rfl ?_
        refine a_iconst (v := 3) eX7_lay_12 (by decide) ?_
        refine a_icmp_le (tgt := 19) eX7_lay_13 (by decide) (fun w4 => ?_) (fun w4 => ?_)
        · replace hv := hv.1 w4
          refine a_iload_n eX7_lay_19 rfl ?_
          refine a_iconst (v := 1) eX7_lay_20 (by decide) ?_
          refine a_icmp_ne (tgt := 32) eX7_lay_21 (by decide) (fun w5 => ?_) (fun w5 => ?_)
          · replace hv := hv.2 w5
            exact a_weak [true, true, true, true, false, false] rfl rfl hv
          · replace hv := hv.1 w5
            refine a_aload_n eX7_lay_24 rfl ?_
            refine a_iload_n eX7_lay_25 rfl ?_
            refine qX7_82 rfl eX7_lay_26 (Nat.le_of_ble_eq_true rfl) ?_
            refine Tr.of rfl (Nat.le_of_ble_eq_true rfl) (vs := [some (.ref (G.1 0)), some (.int v3)]) rfl ?_
            refine a_iload_n eX7_isOne_0 rfl ?_
            refine a_if_lt (tgt := 19) eX7_isOne_1 (by decide) (fun w6 => ?_) (fun w6 => ?_)
            · replace hv := hv.1 w6
              refine a_iconst (v := 0) eX7_isOne_19 (by decide) ?_
              refine a_iret eX7_isOne_20 rfl rfl (ret_i ?_)
              refine a_if_eq (tgt := 44) eX7_lay_29 (by decide) (fun _ => ?_) (fun h => absurd h (by decide))
              exact a_weak [false, false, false, false, false, false] rfl rfl hv
            · replace hv := hv.2 w6
              refine a_iload_n eX7_isOne_4 rfl ?_
              refine a_aload_n eX7_isOne_5 rfl ?_
              refine gX7_2 eX7_isOne_6 fl_X7_28 ?_
              refine gX1_1 ld30 eX7_isOne_9 fl_X7_148 ?_
              refine a_icmp_ge (tgt := 19) eX7_isOne_12 (by decide) (fun w7 => ?_) (fun w7 => ?_)
              · replace hv := hv.1 w7
                refine a_iconst (v := 0) eX7_isOne_19 (by decide) ?_
                refine a_iret eX7_isOne_20 rfl rfl (ret_i ?_)
                refine a_if_eq (tgt := 44) eX7_lay_29 (by decide) (fun _ => ?_) (fun h => absurd h (by decide))
                exact a_weak [false, false, false, false, false, false] rfl rfl hv
              · replace hv := hv.2 w7
                refine a_iconst (v := 1) eX7_isOne_15 (by decide) ?_
                refine a_goto (tgt := 20) eX7_isOne_16 (by decide) ?_
                refine a_iret eX7_isOne_20 rfl rfl (ret_i ?_)
                refine a_if_eq (tgt := 44) eX7_lay_29 (by decide) (fun h => absurd h (by decide)) (fun _ => ?_)
                exact a_weak [true, true, true, true, false, false] rfl rfl hv
        · replace hv := hv.2 w4
          exact a_weak [false, false, false, false, false, false] rfl rfl hv
theorem bX7_lay_44 {l : Launch} {G : GT} {d : Nat} {M : Mem} {R : Option Value → Mem → Prop}  (hv : R (some (.int (-1000000001))) M) : At l G (d + 4) mX7_lay 44 [none, none, none, none, none, none] [] M R := by
  refine a_ldc eX7_lay_44 kc_X7_73 ?_
  exact a_iret eX7_lay_46 rfl rfl hv
theorem bX7_lay_32 {l : Launch} {G : GT} {d : Nat} {M : Mem} {R : Option Value → Mem → Prop} {v1 : Int32} {v2 : Int32} {v3 : Int32} (hv : (v2 = 2 → (v3 < 0 → At l G (d + 4) mX7_lay 44 [none, none, none, none, none, none] [] M R) ∧ (¬ (v3 < 0) → (4 ≤ v3 → At l G (d + 4) mX7_lay 44 [none, none, none, none, none, none] [] M R) ∧ (¬ (4 ≤ v3) → At l G (d + 4) mX7_lay 47 [some (.ref (G.1 0)), some (.int v1), some (.int v2), some (.int v3), none, none] [] M R))) ∧ (¬ (v2 = 2) → At l G (d + 4) mX7_lay 47 [some (.ref (G.1 0)), some (.int v1), some (.int v2), some (.int v3), none, none] [] M R)) : At l G (d + 4) mX7_lay 32 [some (.ref (G.1 0)), some (.int v1), some (.int v2), some (.int v3), none, none] [] M R := by
  refine a_iload_n eX7_lay_32 rfl ?_
  refine a_iconst (v := 2) eX7_lay_33 (by decide) ?_
  refine a_icmp_ne (tgt := 47) eX7_lay_34 (by decide) (fun w1 => ?_) (fun w1 => ?_)
  · replace hv := hv.2 w1
    exact a_weak [true, true, true, true, false, false] rfl rfl hv
  · replace hv := hv.1 w1
    refine a_iload_n eX7_lay_37 rfl ?_
    refine qX7_218 rfl eX7_lay_38 (Nat.le_of_ble_eq_true rfl) ?_
    refine Tr.of rfl (Nat.le_of_ble_eq_true rfl) (vs := [some (.int v3)]) rfl ?_
    refine a_iload_n eX7_isSheet_0 rfl ?_
    refine a_if_lt (tgt := 13) eX7_isSheet_1 (by decide) (fun w2 => ?_) (fun w2 => ?_)
    · replace hv := hv.1 w2
      refine a_iconst (v := 0) eX7_isSheet_13 (by decide) ?_
      refine a_iret eX7_isSheet_14 rfl rfl (ret_i ?_)
      refine a_if_ne (tgt := 47) eX7_lay_41 (by decide) (fun h => absurd h (by decide)) (fun _ => ?_)
      exact a_weak [false, false, false, false, false, false] rfl rfl hv
    · replace hv := hv.2 w2
      refine a_iload_n eX7_isSheet_4 rfl ?_
      refine a_iconst (v := 4) eX7_isSheet_5 (by decide) ?_
      refine a_icmp_ge (tgt := 13) eX7_isSheet_6 (by decide) (fun w3 => ?_) (fun w3 => ?_)
      · replace hv := hv.1 w3
        refine a_iconst (v := 0) eX7_isSheet_13 (by decide) ?_
        refine a_iret eX7_isSheet_14 rfl rfl (ret_i ?_)
        refine a_if_ne (tgt := 47) eX7_lay_41 (by decide) (fun h => absurd h (by decide)) (fun _ => ?_)
        exact a_weak [false, false, false, false, false, false] rfl rfl hv
      · replace hv := hv.2 w3
        refine a_iconst (v := 1) eX7_isSheet_9 (by decide) ?_
        refine a_goto (tgt := 14) eX7_isSheet_10 (by decide) ?_
        refine a_iret eX7_isSheet_14 rfl rfl (ret_i ?_)
        refine a_if_ne (tgt := 47) eX7_lay_41 (by decide) (fun _ => ?_) (fun h => absurd h (by decide))
        exact a_weak [true, true, true, true, false, false] rfl rfl hv
theorem bX7_lay_47 {l : Launch} {G : GT} {d : Nat} {M : Mem} {R : Option Value → Mem → Prop} {v1 : Int32} {v2 : Int32} {v3 : Int32} (hv : (v2 = 2 → vp_in v3 4 ∧ ((M (70 + 2 * ix v3) 0) = (-1) → R (some (.int (-1000000011))) M) ∧ (¬ ((M (70 + 2 * ix v3) 0) = (-1)) → At l G (d + 4) mX7_lay 67 [some (.ref (G.1 0)), some (.int v1), some (.int v2), some (.int v3), none, none] [] M R)) ∧ (¬ (v2 = 2) → At l G (d + 4) mX7_lay 67 [some (.ref (G.1 0)), some (.int v1), some (.int v2), some (.int v3), none, none] [] M R)) : At l G (d + 4) mX7_lay 47 [some (.ref (G.1 0)), some (.int v1), some (.int v2), some (.int v3), none, none] [] M R := by
  refine a_iload_n eX7_lay_47 rfl ?_
  refine a_iconst (v := 2) eX7_lay_48 (by decide) ?_
  refine a_icmp_ne (tgt := 67) eX7_lay_49 (by decide) (fun w1 => ?_) (fun w1 => ?_)
  · replace hv := hv.2 w1
    exact a_weak [true, true, true, true, false, false] rfl rfl hv
  · replace hv := hv.1 w1
    refine a_aload_n eX7_lay_52 rfl ?_
    refine gX7_8 eX7_lay_53 fl_X7_54 ?_
    refine a_iload_n eX7_lay_56 rfl ?_
    obtain ⟨h2, hv⟩ := hv
    refine a_aald_sheets eX7_lay_57 h2 ?_
    refine qX7_221 (sht_is (vp_lt h2)) rfl eX7_lay_58 (Nat.le_of_ble_eq_true rfl) ?_
    refine Tr.of rfl (Nat.le_of_ble_eq_true rfl) (vs := [some (.ref (G.1 (70 + 2 * ix v3)))]) rfl ?_
    refine a_aload_n eX3_isMissing_0 rfl ?_
    refine gX3_0 (sht_is (vp_lt h2)) eX3_isMissing_1 fl_X3_9 ?_
    refine a_iconst (v := (-1)) eX3_isMissing_4 (by decide) ?_
    refine a_icmp_ne (tgt := 12) eX3_isMissing_5 (by decide) (fun w3 => ?_) (fun w3 => ?_)
    · replace hv := hv.2 w3
      refine a_iconst (v := 0) eX3_isMissing_12 (by decide) ?_
      refine a_iret eX3_isMissing_13 rfl rfl (ret_i ?_)
      refine a_if_eq (tgt := 67) eX7_lay_61 (by decide) (fun _ => ?_) (fun h => absurd h (by decide))
      exact a_weak [true, true, true, true, false, false] rfl rfl hv
    · replace hv := hv.1 w3
      refine a_iconst (v := 1) eX3_isMissing_8 (by decide) ?_
      refine a_goto (tgt := 13) eX3_isMissing_9 (by decide) ?_
      refine a_iret eX3_isMissing_13 rfl rfl (ret_i ?_)
      refine a_if_eq (tgt := 67) eX7_lay_61 (by decide) (fun h => absurd h (by decide)) (fun _ => ?_)
      refine a_ldc eX7_lay_64 kc_X7_225 ?_
      exact a_iret eX7_lay_66 rfl rfl hv
theorem bX7_lay_67 {l : Launch} {G : GT} {d : Nat} {M : Mem} {R : Option Value → Mem → Prop} {v1 : Int32} {v2 : Int32} {v3 : Int32} (hv : vp_in v1 5 ∧ (v2 = 1 → vp_in v3 8 ∧ ∀ M6 : Mem, M6 = um (um M (80 + 3 * ix v1) 0 v2) (80 + 3 * ix v1) 1 ((um M (80 + 3 * ix v1) 0 v2) 31 (ix v3)) → vp_in v3 8 ∧ At l G (d + 4) mX7_lay 152 [none, none, none, none, none, some (.int (M (80 + 3 * ix v1) 0))] [] (um M6 (80 + 3 * ix v1) 2 (M6 34 (ix v3))) R) ∧ (¬ (v2 = 1) → (v2 = 2 → vp_in v3 4 ∧ Tr l G (d + 3) mX3_take [.ref (G.1 (80 + 3 * ix v1 + 1)), .ref (G.1 (70 + 2 * ix v3))] (um M (80 + 3 * ix v1) 0 v2) (kV fun M' => At l G (d + 4) mX7_lay 143 [none, none, none, none, none, some (.int (M (80 + 3 * ix v1) 0))] [] M' R)) ∧ (¬ (v2 = 2) → At l G (d + 4) mX7_lay 152 [none, none, none, none, none, some (.int (M (80 + 3 * ix v1) 0))] [] (um (um M (80 + 3 * ix v1) 0 v2) (80 + 3 * ix v1) 4 v3) R))) : At l G (d + 4) mX7_lay 67 [some (.ref (G.1 0)), some (.int v1), some (.int v2), some (.int v3), none, none] [] M R := by
  refine a_aload_n eX7_lay_67 rfl ?_
  refine gX7_9 eX7_lay_68 fl_X7_61 ?_
  refine a_iload_n eX7_lay_71 rfl ?_
  obtain ⟨h1, hv⟩ := hv
  refine a_aald_slots eX7_lay_72 h1 ?_
  refine a_astore (vs' := [some (.ref (G.1 0)), some (.int v1), some (.int v2), some (.int v3), some (.ref (G.1 (80 + 3 * ix v1))), none]) eX7_lay_73 rfl (Nat.le_of_ble_eq_true rfl) rfl ?_
  refine a_aload eX7_lay_75 rfl ?_
  refine gX4_0 (slt_is (vp_lt h1)) eX7_lay_77 fl_X7_299 ?_
  refine a_istore (vs' := [some (.ref (G.1 0)), some (.int v1), some (.int v2), some (.int v3), some (.ref (G.1 (80 + 3 * ix v1))), some (.int (M (80 + 3 * ix v1) 0))]) eX7_lay_80 rfl (Nat.le_of_ble_eq_true rfl) rfl ?_
  refine a_aload eX7_lay_82 rfl ?_
  refine a_iload_n eX7_lay_84 rfl ?_
  refine pX4_0 (slt_is (vp_lt h1)) eX7_lay_85 fl_X7_299 ?_
  refine a_iload_n eX7_lay_88 rfl ?_
  refine a_iconst (v := 1) eX7_lay_89 (by decide) ?_
  refine a_icmp_ne (tgt := 124) eX7_lay_90 (by decide) (fun w2 => ?_) (fun w2 => ?_)
  · replace hv := hv.2 w2
    refine a_iload_n eX7_lay_124 rfl ?_
    refine a_iconst (v := 2) eX7_lay_125 (by decide) ?_
    refine a_icmp_ne (tgt := 146) eX7_lay_126 (by decide) (fun w3 => ?_) (fun w3 => ?_)
    · replace hv := hv.2 w3
      refine a_aload eX7_lay_146 rfl ?_
      refine a_iload_n eX7_lay_148 rfl ?_
      refine pX4_4 (slt_is (vp_lt h1)) eX7_lay_149 fl_X7_314 ?_
      exact a_weak [false, false, false, false, false, true] rfl rfl hv
    · replace hv := hv.1 w3
      refine a_aload eX7_lay_129 rfl ?_
      refine gX4_3 (slt_is (vp_lt h1)) eX7_lay_131 fl_X7_308 ?_
      refine a_aload_n eX7_lay_134 rfl ?_
      refine gX7_8 eX7_lay_135 fl_X7_54 ?_
      refine a_iload_n eX7_lay_138 rfl ?_
      obtain ⟨h4, hv⟩ := hv
      refine a_aald_sheets eX7_lay_139 h4 ?_
      exact qX7_312 (sl_1 (slt_is (vp_lt h1))) rfl eX7_lay_140 (Nat.le_of_ble_eq_true rfl) (tr_V [false, false, false, false, false, true] rfl rfl hv)
  · replace hv := hv.1 w2
    refine a_aload eX7_lay_93 rfl ?_
    refine a_aload_n eX7_lay_95 rfl ?_
    refine gX7_2 eX7_lay_96 fl_X7_28 ?_
    refine gX1_2 ld30 eX7_lay_99 fl_X7_85 ?_
    refine a_iload_n eX7_lay_102 rfl ?_
    obtain ⟨h5, hv⟩ := hv
    refine a_iald eX7_lay_103 (ld_8 ld30 1 (by decide)) (ld_in ld30 1 (by decide)) h5 ?_
    refine pX4_1 (slt_is (vp_lt h1)) eX7_lay_104 fl_X7_302 ?_
    refine a_nm (fun M6 eM6 => ?_)
    replace hv := hv M6 eM6
    refine a_aload eX7_lay_107 rfl ?_
    refine a_aload_n eX7_lay_109 rfl ?_
    refine gX7_2 eX7_lay_110 fl_X7_28 ?_
    refine gX1_5 ld30 eX7_lay_113 fl_X7_94 ?_
    refine a_iload_n eX7_lay_116 rfl ?_
    obtain ⟨h7, hv⟩ := hv
    refine a_iald eX7_lay_117 (ld_8 ld30 4 (by decide)) (ld_in ld30 4 (by decide)) h7 ?_
    refine pX4_2 (slt_is (vp_lt h1)) eX7_lay_118 fl_X7_305 ?_
    refine a_goto (tgt := 152) eX7_lay_121 (by decide) ?_
    exact a_weak [false, false, false, false, false, true] rfl rfl hv
theorem bX7_lay_143 {l : Launch} {G : GT} {d : Nat} {M : Mem} {R : Option Value → Mem → Prop} {v5 : Int32} (hv : At l G (d + 4) mX7_lay 152 [none, none, none, none, none, some (.int v5)] [] M R) : At l G (d + 4) mX7_lay 143 [none, none, none, none, none, some (.int v5)] [] M R := by
  refine a_goto (tgt := 152) eX7_lay_143 (by decide) ?_
  exact a_weak [false, false, false, false, false, true] rfl rfl hv
theorem bX7_lay_152 {l : Launch} {G : GT} {d : Nat} {M : Mem} {R : Option Value → Mem → Prop} {v5 : Int32} (hv : R (some (.int v5)) M) : At l G (d + 4) mX7_lay 152 [none, none, none, none, none, some (.int v5)] [] M R := by
  refine a_iload eX7_lay_152 rfl ?_
  exact a_iret eX7_lay_154 rfl rfl hv
theorem bX7_lay_16 {l : Launch} {G : GT} {d : Nat} {M : Mem} {R : Option Value → Mem → Prop}  (hv : R (some (.int (-1000000001))) M) : At l G (d + 4) mX7_lay 16 [none, none, none, none, none, none] [] M R := by
  refine a_ldc eX7_lay_16 kc_X7_73 ?_
  exact a_iret eX7_lay_18 rfl rfl hv
theorem tX7_ask {l : Launch} {G : GT} {d : Nat} {M : Mem} {R : Option Value → Mem → Prop} {v1 : Int32} {v2 : Int32} (hv : (v1 < 0 → R (some (.int (-1000000001))) M) ∧ (¬ (v1 < 0) → (5 ≤ v1 → R (some (.int (-1000000001))) M) ∧ (¬ (5 ≤ v1) → (v2 < 0 → R (some (.int (-1000000001))) M) ∧ (¬ (v2 < 0) → (6 ≤ v2 → R (some (.int (-1000000001))) M) ∧ (¬ (6 ≤ v2) → vp_in v1 5 ∧ ((M (80 + 3 * ix v1) 0) = 0 → R (some (.int (-1000000011))) M) ∧ (¬ ((M (80 + 3 * ix v1) 0) = 0) → ((M (80 + 3 * ix v1) 0) = 1 → Tr l G (d + 3) mX0_isUnder [.int (M (80 + 3 * ix v1) 1), .int v2] M (kI fun q M' => At l G (d + 4) mX7_ask 50 [none, none, none, some (.ref (G.1 (80 + 3 * ix v1)))] [.int q] M' R)) ∧ (¬ ((M (80 + 3 * ix v1) 0) = 1) → R (some (.int (-1000000012))) M))))))) : Tr l G (d + 4) mX7_ask [.ref (G.1 0), .int v1, .int v2] M R := by
  refine Tr.of rfl (Nat.le_of_ble_eq_true rfl) (vs := [some (.ref (G.1 0)), some (.int v1), some (.int v2), none]) rfl ?_
  refine a_iload_n eX7_ask_0 rfl ?_
  refine qX7_296 rfl eX7_ask_1 (Nat.le_of_ble_eq_true rfl) ?_
  refine Tr.of rfl (Nat.le_of_ble_eq_true rfl) (vs := [some (.int v1)]) rfl ?_
  refine a_iload_n eX7_isSlot_0 rfl ?_
  refine a_if_lt (tgt := 13) eX7_isSlot_1 (by decide) (fun w1 => ?_) (fun w1 => ?_)
  · replace hv := hv.1 w1
    refine a_iconst (v := 0) eX7_isSlot_13 (by decide) ?_
    refine a_iret eX7_isSlot_14 rfl rfl (ret_i ?_)
    refine a_if_eq (tgt := 14) eX7_ask_4 (by decide) (fun _ => ?_) (fun h => absurd h (by decide))
    refine a_ldc eX7_ask_14 kc_X7_73 ?_
    exact a_iret eX7_ask_16 rfl rfl hv
  · replace hv := hv.2 w1
    refine a_iload_n eX7_isSlot_4 rfl ?_
    refine a_iconst (v := 5) eX7_isSlot_5 (by decide) ?_
    refine a_icmp_ge (tgt := 13) eX7_isSlot_6 (by decide) (fun w2 => ?_) (fun w2 => ?_)
    · replace hv := hv.1 w2
      refine a_iconst (v := 0) eX7_isSlot_13 (by decide) ?_
      refine a_iret eX7_isSlot_14 rfl rfl (ret_i ?_)
      refine a_if_eq (tgt := 14) eX7_ask_4 (by decide) (fun _ => ?_) (fun h => absurd h (by decide))
      refine a_ldc eX7_ask_14 kc_X7_73 ?_
      exact a_iret eX7_ask_16 rfl rfl hv
    · replace hv := hv.2 w2
      refine a_iconst (v := 1) eX7_isSlot_9 (by decide) ?_
      refine a_goto (tgt := 14) eX7_isSlot_10 (by decide) ?_
      refine a_iret eX7_isSlot_14 rfl rfl (ret_i ?_)
      refine a_if_eq (tgt := 14) eX7_ask_4 (by decide) (fun h => absurd h (by decide)) (fun _ => ?_)
      refine a_iload_n eX7_ask_7 rfl ?_
      refine qX7_66 rfl eX7_ask_8 (Nat.le_of_ble_eq_true rfl) ?_
      refine Tr.of rfl (Nat.le_of_ble_eq_true rfl) (vs := [some (.int v2)]) rfl ?_
      refine a_iload_n eX7_isKind_0 rfl ?_
      refine a_if_lt (tgt := 14) eX7_isKind_1 (by decide) (fun w3 => ?_) (fun w3 => ?_)
      · replace hv := hv.1 w3
        refine a_iconst (v := 0) eX7_isKind_14 (by decide) ?_
        refine a_iret eX7_isKind_15 rfl rfl (ret_i ?_)
        refine a_if_ne (tgt := 17) eX7_ask_11 (by decide) (fun h => absurd h (by decide)) (fun _ => ?_)
        refine a_ldc eX7_ask_14 kc_X7_73 ?_
        exact a_iret eX7_ask_16 rfl rfl hv
      · replace hv := hv.2 w3
        refine a_iload_n eX7_isKind_4 rfl ?_
        refine a_bipush (v := 6) eX7_isKind_5 (by decide) ?_
        refine a_icmp_ge (tgt := 14) eX7_isKind_7 (by decide) (fun w4 => ?_) (fun w4 => ?_)
        · replace hv := hv.1 w4
          refine a_iconst (v := 0) eX7_isKind_14 (by decide) ?_
          refine a_iret eX7_isKind_15 rfl rfl (ret_i ?_)
          refine a_if_ne (tgt := 17) eX7_ask_11 (by decide) (fun h => absurd h (by decide)) (fun _ => ?_)
          refine a_ldc eX7_ask_14 kc_X7_73 ?_
          exact a_iret eX7_ask_16 rfl rfl hv
        · replace hv := hv.2 w4
          refine a_iconst (v := 1) eX7_isKind_10 (by decide) ?_
          refine a_goto (tgt := 15) eX7_isKind_11 (by decide) ?_
          refine a_iret eX7_isKind_15 rfl rfl (ret_i ?_)
          refine a_if_ne (tgt := 17) eX7_ask_11 (by decide) (fun _ => ?_) (fun h => absurd h (by decide))
          refine a_aload_n eX7_ask_17 rfl ?_
          refine gX7_9 eX7_ask_18 fl_X7_61 ?_
          refine a_iload_n eX7_ask_21 rfl ?_
          obtain ⟨h5, hv⟩ := hv
          refine a_aald_slots eX7_ask_22 h5 ?_
          refine a_astore_n (vs' := [some (.ref (G.1 0)), some (.int v1), some (.int v2), some (.ref (G.1 (80 + 3 * ix v1)))]) eX7_ask_23 rfl (Nat.le_of_ble_eq_true rfl) rfl ?_
          refine a_aload_n eX7_ask_24 rfl ?_
          refine gX4_0 (slt_is (vp_lt h5)) eX7_ask_25 fl_X7_299 ?_
          refine a_if_ne (tgt := 34) eX7_ask_28 (by decide) (fun w6 => ?_) (fun w6 => ?_)
          · replace hv := hv.2 w6
            refine a_aload_n eX7_ask_34 rfl ?_
            refine gX4_0 (slt_is (vp_lt h5)) eX7_ask_35 fl_X7_299 ?_
            refine a_iconst (v := 1) eX7_ask_38 (by decide) ?_
            refine a_icmp_ne (tgt := 53) eX7_ask_39 (by decide) (fun w7 => ?_) (fun w7 => ?_)
            · replace hv := hv.2 w7
              refine a_ldc eX7_ask_53 kc_X7_113 ?_
              exact a_iret eX7_ask_55 rfl rfl hv
            · replace hv := hv.1 w7
              refine a_aload_n eX7_ask_42 rfl ?_
              refine gX4_1 (slt_is (vp_lt h5)) eX7_ask_43 fl_X7_302 ?_
              refine a_iload_n eX7_ask_46 rfl ?_
              exact qX7_109 rfl eX7_ask_47 (Nat.le_of_ble_eq_true rfl) (tr_I [false, false, false, true] rfl rfl hv)
          · replace hv := hv.1 w6
            refine a_ldc eX7_ask_31 kc_X7_225 ?_
            exact a_iret eX7_ask_33 rfl rfl hv
theorem bX7_ask_50 {l : Launch} {G : GT} {d : Nat} {M : Mem} {R : Option Value → Mem → Prop} {c3 : Nat} (hc3 : IsSl c3) {r : Int32} (hv : (r = 0 → R (some (.int (-1000000012))) M) ∧ (¬ (r = 0) → Tr l G (d + 3) mX0_worth [.int (M c3 1), .int (M c3 2)] M (kI fun q M' => At l G (d + 4) mX7_ask 67 [none, none, none, none] [.int q] M' R))) : At l G (d + 4) mX7_ask 50 [none, none, none, some (.ref (G.1 c3))] [.int r] M R := by
  refine a_if_ne (tgt := 56) eX7_ask_50 (by decide) (fun w1 => ?_) (fun w1 => ?_)
  · replace hv := hv.2 w1
    refine a_aload_n eX7_ask_56 rfl ?_
    refine gX4_1 hc3 eX7_ask_57 fl_X7_302 ?_
    refine a_aload_n eX7_ask_60 rfl ?_
    refine gX4_2 hc3 eX7_ask_61 fl_X7_305 ?_
    exact qX7_104 rfl eX7_ask_64 (Nat.le_of_ble_eq_true rfl) (tr_I [false, false, false, false] rfl rfl hv)
  · replace hv := hv.1 w1
    refine a_ldc eX7_ask_53 kc_X7_113 ?_
    exact a_iret eX7_ask_55 rfl rfl hv
theorem bX7_ask_67 {l : Launch} {G : GT} {d : Nat} {M : Mem} {R : Option Value → Mem → Prop} {r : Int32} (hv : R (some (.int r)) M) : At l G (d + 4) mX7_ask 67 [none, none, none, none] [.int r] M R := by
  exact a_iret eX7_ask_67 rfl rfl hv
theorem tX7_item {l : Launch} {G : GT} {d : Nat} {M : Mem} {R : Option Value → Mem → Prop} {v1 : Int32} {v2 : Int32} (hv : (v1 < 0 → R (some (.int (-1000000001))) M) ∧ (¬ (v1 < 0) → (5 ≤ v1 → R (some (.int (-1000000001))) M) ∧ (¬ (5 ≤ v1) → vp_in v1 5 ∧ ((M (80 + 3 * ix v1) 0) = 0 → R (some (.int (-1000000011))) M) ∧ (¬ ((M (80 + 3 * ix v1) 0) = 0) → ((M (80 + 3 * ix v1) 0) = 2 → (v2 < 0 → R (some (.int (-1000000013))) M) ∧ (¬ (v2 < 0) → ((M (80 + 3 * ix v1 + 1) 1) ≤ v2 → R (some (.int (-1000000013))) M) ∧ (¬ ((M (80 + 3 * ix v1 + 1) 1) ≤ v2) → (v2 < 0 → R (some (.int (-1000000012))) M) ∧ (¬ (v2 < 0) → ((M (80 + 3 * ix v1 + 1) 1) ≤ v2 → R (some (.int (-1000000012))) M) ∧ (¬ ((M (80 + 3 * ix v1 + 1) 1) ≤ v2) → vp_in v2 24 ∧ ((M (80 + 3 * ix v1 + 1 + 1) (ix v2)) = (-1000000005) → R (some (.int (-1000000012))) M) ∧ (¬ ((M (80 + 3 * ix v1 + 1 + 1) (ix v2)) = (-1000000005)) → vp_in v2 24 ∧ R (some (.int (M (80 + 3 * ix v1 + 1 + 1) (ix v2)))) M)))))) ∧ (¬ ((M (80 + 3 * ix v1) 0) = 2) → R (some (.int (-1000000012))) M))))) : Tr l G (d + 4) mX7_item [.ref (G.1 0), .int v1, .int v2] M R := by
  refine Tr.of rfl (Nat.le_of_ble_eq_true rfl) (vs := [some (.ref (G.1 0)), some (.int v1), some (.int v2), none]) rfl ?_
  refine a_iload_n eX7_item_0 rfl ?_
  refine qX7_296 rfl eX7_item_1 (Nat.le_of_ble_eq_true rfl) ?_
  refine Tr.of rfl (Nat.le_of_ble_eq_true rfl) (vs := [some (.int v1)]) rfl ?_
  refine a_iload_n eX7_isSlot_0 rfl ?_
  refine a_if_lt (tgt := 13) eX7_isSlot_1 (by decide) (fun w1 => ?_) (fun w1 => ?_)
  · replace hv := hv.1 w1
    refine a_iconst (v := 0) eX7_isSlot_13 (by decide) ?_
    refine a_iret eX7_isSlot_14 rfl rfl (ret_i ?_)
    refine a_if_ne (tgt := 10) eX7_item_4 (by decide) (fun h => absurd h (by decide)) (fun _ => ?_)
    refine a_ldc eX7_item_7 kc_X7_73 ?_
    exact a_iret eX7_item_9 rfl rfl hv
  · replace hv := hv.2 w1
    refine a_iload_n eX7_isSlot_4 rfl ?_
    refine a_iconst (v := 5) eX7_isSlot_5 (by decide) ?_
    refine a_icmp_ge (tgt := 13) eX7_isSlot_6 (by decide) (fun w2 => ?_) (fun w2 => ?_)
    · replace hv := hv.1 w2
      refine a_iconst (v := 0) eX7_isSlot_13 (by decide) ?_
      refine a_iret eX7_isSlot_14 rfl rfl (ret_i ?_)
      refine a_if_ne (tgt := 10) eX7_item_4 (by decide) (fun h => absurd h (by decide)) (fun _ => ?_)
      refine a_ldc eX7_item_7 kc_X7_73 ?_
      exact a_iret eX7_item_9 rfl rfl hv
    · replace hv := hv.2 w2
      refine a_iconst (v := 1) eX7_isSlot_9 (by decide) ?_
      refine a_goto (tgt := 14) eX7_isSlot_10 (by decide) ?_
      refine a_iret eX7_isSlot_14 rfl rfl (ret_i ?_)
      refine a_if_ne (tgt := 10) eX7_item_4 (by decide) (fun _ => ?_) (fun h => absurd h (by decide))
      refine a_aload_n eX7_item_10 rfl ?_
      refine gX7_9 eX7_item_11 fl_X7_61 ?_
      refine a_iload_n eX7_item_14 rfl ?_
      obtain ⟨h3, hv⟩ := hv
      refine a_aald_slots eX7_item_15 h3 ?_
      refine a_astore_n (vs' := [some (.ref (G.1 0)), some (.int v1), some (.int v2), some (.ref (G.1 (80 + 3 * ix v1)))]) eX7_item_16 rfl (Nat.le_of_ble_eq_true rfl) rfl ?_
      refine a_aload_n eX7_item_17 rfl ?_
      refine gX4_0 (slt_is (vp_lt h3)) eX7_item_18 fl_X7_299 ?_
      refine a_if_ne (tgt := 27) eX7_item_21 (by decide) (fun w4 => ?_) (fun w4 => ?_)
      · replace hv := hv.2 w4
        refine a_aload_n eX7_item_27 rfl ?_
        refine gX4_0 (slt_is (vp_lt h3)) eX7_item_28 fl_X7_299 ?_
        refine a_iconst (v := 2) eX7_item_31 (by decide) ?_
        refine a_icmp_eq (tgt := 38) eX7_item_32 (by decide) (fun w5 => ?_) (fun w5 => ?_)
        · replace hv := hv.1 w5
          refine a_aload_n eX7_item_38 rfl ?_
          refine gX4_3 (slt_is (vp_lt h3)) eX7_item_39 fl_X7_308 ?_
          refine a_iload_n eX7_item_42 rfl ?_
          refine qX7_275 (sl_1 (slt_is (vp_lt h3))) rfl eX7_item_43 (Nat.le_of_ble_eq_true rfl) ?_
          refine Tr.of rfl (Nat.le_of_ble_eq_true rfl) (vs := [some (.ref (G.1 (80 + 3 * ix v1 + 1))), some (.int v2)]) rfl ?_
          refine a_iload_n eX3_hasPlace_0 rfl ?_
          refine a_if_lt (tgt := 16) eX3_hasPlace_1 (by decide) (fun w6 => ?_) (fun w6 => ?_)
          · replace hv := hv.1 w6
            refine a_iconst (v := 0) eX3_hasPlace_16 (by decide) ?_
            refine a_iret eX3_hasPlace_17 rfl rfl (ret_i ?_)
            refine a_if_ne (tgt := 53) eX7_item_46 (by decide) (fun h => absurd h (by decide)) (fun _ => ?_)
            refine a_ldcw eX7_item_49 kc_X7_278 ?_
            exact a_iret eX7_item_52 rfl rfl hv
          · replace hv := hv.2 w6
            refine a_iload_n eX3_hasPlace_4 rfl ?_
            refine a_aload_n eX3_hasPlace_5 rfl ?_
            refine gX3_1 (sl_1 (slt_is (vp_lt h3))) eX3_hasPlace_6 fl_X3_19 ?_
            refine a_icmp_ge (tgt := 16) eX3_hasPlace_9 (by decide) (fun w7 => ?_) (fun w7 => ?_)
            · replace hv := hv.1 w7
              refine a_iconst (v := 0) eX3_hasPlace_16 (by decide) ?_
              refine a_iret eX3_hasPlace_17 rfl rfl (ret_i ?_)
              refine a_if_ne (tgt := 53) eX7_item_46 (by decide) (fun h => absurd h (by decide)) (fun _ => ?_)
              refine a_ldcw eX7_item_49 kc_X7_278 ?_
              exact a_iret eX7_item_52 rfl rfl hv
            · replace hv := hv.2 w7
              refine a_iconst (v := 1) eX3_hasPlace_12 (by decide) ?_
              refine a_goto (tgt := 17) eX3_hasPlace_13 (by decide) ?_
              refine a_iret eX3_hasPlace_17 rfl rfl (ret_i ?_)
              refine a_if_ne (tgt := 53) eX7_item_46 (by decide) (fun _ => ?_) (fun h => absurd h (by decide))
              refine a_aload_n eX7_item_53 rfl ?_
              refine gX4_3 (slt_is (vp_lt h3)) eX7_item_54 fl_X7_308 ?_
              refine a_iload_n eX7_item_57 rfl ?_
              refine qX7_233 (sl_1 (slt_is (vp_lt h3))) rfl eX7_item_58 (Nat.le_of_ble_eq_true rfl) ?_
              refine Tr.of rfl (Nat.le_of_ble_eq_true rfl) (vs := [some (.ref (G.1 (80 + 3 * ix v1 + 1))), some (.int v2)]) rfl ?_
              refine a_aload_n eX3_isNumber_0 rfl ?_
              refine a_iload_n eX3_isNumber_1 rfl ?_
              refine qX3_22 (sl_1 (slt_is (vp_lt h3))) rfl eX3_isNumber_2 (Nat.le_of_ble_eq_true rfl) ?_
              refine Tr.of rfl (Nat.le_of_ble_eq_true rfl) (vs := [some (.ref (G.1 (80 + 3 * ix v1 + 1))), some (.int v2)]) rfl ?_
              refine a_iload_n eX3_hasPlace_0 rfl ?_
              refine a_if_lt (tgt := 16) eX3_hasPlace_1 (by decide) (fun w8 => ?_) (fun w8 => ?_)
              · replace hv := hv.1 w8
                refine a_iconst (v := 0) eX3_hasPlace_16 (by decide) ?_
                refine a_iret eX3_hasPlace_17 rfl rfl (ret_i ?_)
                refine a_if_eq (tgt := 23) eX3_isNumber_5 (by decide) (fun _ => ?_) (fun h => absurd h (by decide))
                refine a_iconst (v := 0) eX3_isNumber_23 (by decide) ?_
                refine a_iret eX3_isNumber_24 rfl rfl (ret_i ?_)
                refine a_if_eq (tgt := 76) eX7_item_61 (by decide) (fun _ => ?_) (fun h => absurd h (by decide))
                refine a_ldc eX7_item_76 kc_X7_113 ?_
                exact a_iret eX7_item_78 rfl rfl hv
              · replace hv := hv.2 w8
                refine a_iload_n eX3_hasPlace_4 rfl ?_
                refine a_aload_n eX3_hasPlace_5 rfl ?_
                refine gX3_1 (sl_1 (slt_is (vp_lt h3))) eX3_hasPlace_6 fl_X3_19 ?_
                refine a_icmp_ge (tgt := 16) eX3_hasPlace_9 (by decide) (fun w9 => ?_) (fun w9 => ?_)
                · replace hv := hv.1 w9
                  refine a_iconst (v := 0) eX3_hasPlace_16 (by decide) ?_
                  refine a_iret eX3_hasPlace_17 rfl rfl (ret_i ?_)
                  refine a_if_eq (tgt := 23) eX3_isNumber_5 (by decide) (fun _ => ?_) (fun h => absurd h (by decide))
                  refine a_iconst (v := 0) eX3_isNumber_23 (by decide) ?_
                  refine a_iret eX3_isNumber_24 rfl rfl (ret_i ?_)
                  refine a_if_eq (tgt := 76) eX7_item_61 (by decide) (fun _ => ?_) (fun h => absurd h (by decide))
                  refine a_ldc eX7_item_76 kc_X7_113 ?_
                  exact a_iret eX7_item_78 rfl rfl hv
                · replace hv := hv.2 w9
                  refine a_iconst (v := 1) eX3_hasPlace_12 (by decide) ?_
                  refine a_goto (tgt := 17) eX3_hasPlace_13 (by decide) ?_
                  refine a_iret eX3_hasPlace_17 rfl rfl (ret_i ?_)
                  refine a_if_eq (tgt := 23) eX3_isNumber_5 (by decide) (fun h => absurd h (by decide)) (fun _ => ?_)
                  refine a_aload_n eX3_isNumber_8 rfl ?_
                  refine gX3_2 (sl_1 (slt_is (vp_lt h3))) eX3_isNumber_9 fl_X3_15 ?_
                  refine a_iload_n eX3_isNumber_12 rfl ?_
                  obtain ⟨h10, hv⟩ := hv
                  refine a_iald eX3_isNumber_13 (sh_1 (sl_1 (slt_is (vp_lt h3)))) (sh_in1 (sl_1 (slt_is (vp_lt h3)))) h10 ?_
                  refine a_ldc eX3_isNumber_14 kc_X3_26 ?_
                  refine a_icmp_eq (tgt := 23) eX3_isNumber_16 (by decide) (fun w11 => ?_) (fun w11 => ?_)
                  · replace hv := hv.1 w11
                    refine a_iconst (v := 0) eX3_isNumber_23 (by decide) ?_
                    refine a_iret eX3_isNumber_24 rfl rfl (ret_i ?_)
                    refine a_if_eq (tgt := 76) eX7_item_61 (by decide) (fun _ => ?_) (fun h => absurd h (by decide))
                    refine a_ldc eX7_item_76 kc_X7_113 ?_
                    exact a_iret eX7_item_78 rfl rfl hv
                  · replace hv := hv.2 w11
                    refine a_iconst (v := 1) eX3_isNumber_19 (by decide) ?_
                    refine a_goto (tgt := 24) eX3_isNumber_20 (by decide) ?_
                    refine a_iret eX3_isNumber_24 rfl rfl (ret_i ?_)
                    refine a_if_eq (tgt := 76) eX7_item_61 (by decide) (fun h => absurd h (by decide)) (fun _ => ?_)
                    refine a_aload_n eX7_item_64 rfl ?_
                    refine gX4_3 (slt_is (vp_lt h3)) eX7_item_65 fl_X7_308 ?_
                    refine gX3_2 (sl_1 (slt_is (vp_lt h3))) eX7_item_68 fl_X7_236 ?_
                    refine a_iload_n eX7_item_71 rfl ?_
                    obtain ⟨h12, hv⟩ := hv
                    refine a_iald eX7_item_72 (sh_1 (sl_1 (slt_is (vp_lt h3)))) (sh_in1 (sl_1 (slt_is (vp_lt h3)))) h12 ?_
                    refine a_goto (tgt := 78) eX7_item_73 (by decide) ?_
                    exact a_iret eX7_item_78 rfl rfl hv
        · replace hv := hv.2 w5
          refine a_ldc eX7_item_35 kc_X7_113 ?_
          exact a_iret eX7_item_37 rfl rfl hv
      · replace hv := hv.1 w4
        refine a_ldc eX7_item_24 kc_X7_225 ?_
        exact a_iret eX7_item_26 rfl rfl hv
theorem tX7_rest {l : Launch} {G : GT} {d : Nat} {M : Mem} {R : Option Value → Mem → Prop} {v1 : Int32} {v2 : Int32} (hv : (v1 < 0 → R (some (.int (-1000000001))) M) ∧ (¬ (v1 < 0) → (5 ≤ v1 → R (some (.int (-1000000001))) M) ∧ (¬ (5 ≤ v1) → vp_in v1 5 ∧ ((M (80 + 3 * ix v1) 0) = 0 → R (some (.int (-1000000011))) M) ∧ (¬ ((M (80 + 3 * ix v1) 0) = 0) → ((M (80 + 3 * ix v1) 0) = 3 → (v2 = 0 → R (some (.int (-1000000002))) M) ∧ (¬ (v2 = 0) → ¬ v2 = 0 ∧ R (some (.int ((M (80 + 3 * ix v1) 4) - (M (80 + 3 * ix v1) 4) / v2 * v2))) M)) ∧ (¬ ((M (80 + 3 * ix v1) 0) = 3) → R (some (.int (-1000000012))) M))))) : Tr l G (d + 4) mX7_rest [.ref (G.1 0), .int v1, .int v2] M R := by
  refine Tr.of rfl (Nat.le_of_ble_eq_true rfl) (vs := [some (.ref (G.1 0)), some (.int v1), some (.int v2), none]) rfl ?_
  refine a_iload_n eX7_rest_0 rfl ?_
  refine qX7_296 rfl eX7_rest_1 (Nat.le_of_ble_eq_true rfl) ?_
  refine Tr.of rfl (Nat.le_of_ble_eq_true rfl) (vs := [some (.int v1)]) rfl ?_
  refine a_iload_n eX7_isSlot_0 rfl ?_
  refine a_if_lt (tgt := 13) eX7_isSlot_1 (by decide) (fun w1 => ?_) (fun w1 => ?_)
  · replace hv := hv.1 w1
    refine a_iconst (v := 0) eX7_isSlot_13 (by decide) ?_
    refine a_iret eX7_isSlot_14 rfl rfl (ret_i ?_)
    refine a_if_ne (tgt := 10) eX7_rest_4 (by decide) (fun h => absurd h (by decide)) (fun _ => ?_)
    refine a_ldc eX7_rest_7 kc_X7_73 ?_
    exact a_iret eX7_rest_9 rfl rfl hv
  · replace hv := hv.2 w1
    refine a_iload_n eX7_isSlot_4 rfl ?_
    refine a_iconst (v := 5) eX7_isSlot_5 (by decide) ?_
    refine a_icmp_ge (tgt := 13) eX7_isSlot_6 (by decide) (fun w2 => ?_) (fun w2 => ?_)
    · replace hv := hv.1 w2
      refine a_iconst (v := 0) eX7_isSlot_13 (by decide) ?_
      refine a_iret eX7_isSlot_14 rfl rfl (ret_i ?_)
      refine a_if_ne (tgt := 10) eX7_rest_4 (by decide) (fun h => absurd h (by decide)) (fun _ => ?_)
      refine a_ldc eX7_rest_7 kc_X7_73 ?_
      exact a_iret eX7_rest_9 rfl rfl hv
    · replace hv := hv.2 w2
      refine a_iconst (v := 1) eX7_isSlot_9 (by decide) ?_
      refine a_goto (tgt := 14) eX7_isSlot_10 (by decide) ?_
      refine a_iret eX7_isSlot_14 rfl rfl (ret_i ?_)
      refine a_if_ne (tgt := 10) eX7_rest_4 (by decide) (fun _ => ?_) (fun h => absurd h (by decide))
      refine a_aload_n eX7_rest_10 rfl ?_
      refine gX7_9 eX7_rest_11 fl_X7_61 ?_
      refine a_iload_n eX7_rest_14 rfl ?_
      obtain ⟨h3, hv⟩ := hv
      refine a_aald_slots eX7_rest_15 h3 ?_
      refine a_astore_n (vs' := [some (.ref (G.1 0)), some (.int v1), some (.int v2), some (.ref (G.1 (80 + 3 * ix v1)))]) eX7_rest_16 rfl (Nat.le_of_ble_eq_true rfl) rfl ?_
      refine a_aload_n eX7_rest_17 rfl ?_
      refine gX4_0 (slt_is (vp_lt h3)) eX7_rest_18 fl_X7_299 ?_
      refine a_if_ne (tgt := 27) eX7_rest_21 (by decide) (fun w4 => ?_) (fun w4 => ?_)
      · replace hv := hv.2 w4
        refine a_aload_n eX7_rest_27 rfl ?_
        refine gX4_0 (slt_is (vp_lt h3)) eX7_rest_28 fl_X7_299 ?_
        refine a_iconst (v := 3) eX7_rest_31 (by decide) ?_
        refine a_icmp_eq (tgt := 38) eX7_rest_32 (by decide) (fun w5 => ?_) (fun w5 => ?_)
        · replace hv := hv.1 w5
          refine a_iload_n eX7_rest_38 rfl ?_
          refine a_if_ne (tgt := 47) eX7_rest_39 (by decide) (fun w6 => ?_) (fun w6 => ?_)
          · replace hv := hv.2 w6
            refine a_aload_n eX7_rest_47 rfl ?_
            refine gX4_4 (slt_is (vp_lt h3)) eX7_rest_48 fl_X7_314 ?_
            refine a_iload_n eX7_rest_51 rfl ?_
            obtain ⟨h7, hv⟩ := hv
            refine a_irem eX7_rest_52 h7 ?_
            exact a_iret eX7_rest_53 rfl rfl hv
          · replace hv := hv.1 w6
            refine a_ldc eX7_rest_42 kc_X7_120 ?_
            refine a_goto (tgt := 53) eX7_rest_44 (by decide) ?_
            exact a_iret eX7_rest_53 rfl rfl hv
        · replace hv := hv.2 w5
          refine a_ldc eX7_rest_35 kc_X7_113 ?_
          exact a_iret eX7_rest_37 rfl rfl hv
      · replace hv := hv.1 w4
        refine a_ldc eX7_rest_24 kc_X7_225 ?_
        exact a_iret eX7_rest_26 rfl rfl hv
theorem tX7_tell {l : Launch} {G : GT} {d : Nat} {M : Mem} {R : Option Value → Mem → Prop} {v1 : Int32} (hv : ((M 0 11) < 60 → vp_in (M 0 11) 60 ∧ ∀ M3 : Mem, M3 = um (um M 63 (ix (M 0 11)) v1) 0 11 (((um M 63 (ix (M 0 11)) v1) 0 11) + 1) → R (some (.int (M3 0 11))) M3) ∧ (¬ ((M 0 11) < 60) → R (some (.int (-1000000003))) M)) : Tr l G (d + 4) mX7_tell [.ref (G.1 0), .int v1] M R := by
  refine Tr.of rfl (Nat.le_of_ble_eq_true rfl) (vs := [some (.ref (G.1 0)), some (.int v1)]) rfl ?_
  refine a_aload_n eX7_tell_0 rfl ?_
  refine gX7_11 eX7_tell_1 fl_X7_317 ?_
  refine a_bipush (v := 60) eX7_tell_4 (by decide) ?_
  refine a_icmp_lt (tgt := 12) eX7_tell_6 (by decide) (fun w1 => ?_) (fun w1 => ?_)
  · replace hv := hv.1 w1
    refine a_aload_n eX7_tell_12 rfl ?_
    refine gX7_10 eX7_tell_13 fl_X7_49 ?_
    refine a_aload_n eX7_tell_16 rfl ?_
    refine gX7_11 eX7_tell_17 fl_X7_317 ?_
    refine a_iload_n eX7_tell_20 rfl ?_
    obtain ⟨h2, hv⟩ := hv
    refine a_iast eX7_tell_21 sA63 kA63 h2 ?_
    refine a_aload_n eX7_tell_22 rfl ?_
    refine a_dup eX7_tell_23 rfl ?_
    refine gX7_11 eX7_tell_24 fl_X7_317 ?_
    refine a_iconst (v := 1) eX7_tell_27 (by decide) ?_
    refine a_iadd eX7_tell_28 ?_
    refine pX7_11 eX7_tell_29 fl_X7_317 ?_
    refine a_nm (fun M3 eM3 => ?_)
    replace hv := hv M3 eM3
    refine a_aload_n eX7_tell_32 rfl ?_
    refine gX7_11 eX7_tell_33 fl_X7_317 ?_
    exact a_iret eX7_tell_36 rfl rfl hv
  · replace hv := hv.2 w1
    refine a_ldc eX7_tell_9 kc_X7_248 ?_
    exact a_iret eX7_tell_11 rfl rfl hv
theorem tX7_check {l : Launch} {G : GT} {d : Nat} {M : Mem} {R : Option Value → Mem → Prop} {v1 : Int32} (hv : (v1 < 1 → R (some (.int (-1000000001))) (um M 0 11 0)) ∧ (¬ (v1 < 1) → (v1 ≤ 30 → (((um M 0 11 0) 0 5) = 0 → R (some (.int (-1000000002))) (um M 0 11 0)) ∧ (¬ (((um M 0 11 0) 0 5) = 0) → Tr l G (d + 3) mX1_take [.ref (G.1 40), .ref (G.1 50)] (um M 0 11 0) (kV fun M' => At l G (d + 4) mX7_check 45 [some (.ref (G.1 0)), some (.int v1), some (.int (M 0 11)), none, none] [] M' R))) ∧ (¬ (v1 ≤ 30) → R (some (.int (-1000000001))) (um M 0 11 0)))) : Tr l G (d + 4) mX7_check [.ref (G.1 0), .int v1] M R := by
  refine Tr.of rfl (Nat.le_of_ble_eq_true rfl) (vs := [some (.ref (G.1 0)), some (.int v1), none, none, none]) rfl ?_
  refine a_aload_n eX7_check_0 rfl ?_
  refine gX7_11 eX7_check_1 fl_X7_317 ?_
  refine a_istore_n (vs' := [some (.ref (G.1 0)), some (.int v1), some (.int (M 0 11)), none, none]) eX7_check_4 rfl (Nat.le_of_ble_eq_true rfl) rfl ?_
  refine a_aload_n eX7_check_5 rfl ?_
  refine a_iconst (v := 0) eX7_check_6 (by decide) ?_
  refine pX7_11 eX7_check_7 fl_X7_317 ?_
  refine a_iload_n eX7_check_10 rfl ?_
  refine a_iconst (v := 1) eX7_check_11 (by decide) ?_
  refine a_icmp_lt (tgt := 21) eX7_check_12 (by decide) (fun w1 => ?_) (fun w1 => ?_)
  · replace hv := hv.1 w1
    refine a_ldc eX7_check_21 kc_X7_73 ?_
    exact a_iret eX7_check_23 rfl rfl hv
  · replace hv := hv.2 w1
    refine a_iload_n eX7_check_15 rfl ?_
    refine a_bipush (v := 30) eX7_check_16 (by decide) ?_
    refine a_icmp_le (tgt := 24) eX7_check_18 (by decide) (fun w2 => ?_) (fun w2 => ?_)
    · replace hv := hv.1 w2
      refine a_aload_n eX7_check_24 rfl ?_
      refine gX7_5 eX7_check_25 fl_X7_320 ?_
      refine a_if_ne (tgt := 34) eX7_check_28 (by decide) (fun w3 => ?_) (fun w3 => ?_)
      · replace hv := hv.2 w3
        refine a_aload_n eX7_check_34 rfl ?_
        refine gX7_3 eX7_check_35 fl_X7_32 ?_
        refine a_aload_n eX7_check_38 rfl ?_
        refine gX7_4 eX7_check_39 fl_X7_35 ?_
        exact qX7_212 ld40 rfl eX7_check_42 (Nat.le_of_ble_eq_true rfl) (tr_V [true, true, true, false, false] rfl rfl hv)
      · replace hv := hv.1 w3
        refine a_ldc eX7_check_31 kc_X7_120 ?_
        exact a_iret eX7_check_33 rfl rfl hv
    · replace hv := hv.2 w2
      refine a_ldc eX7_check_21 kc_X7_73 ?_
      exact a_iret eX7_check_23 rfl rfl hv
theorem bX7_check_45 {l : Launch} {G : GT} {d : Nat} {M : Mem} {R : Option Value → Mem → Prop} {v1 : Int32} {v2 : Int32} (hv : At l G (d + 4) mX7_check 64 [some (.ref (G.1 0)), none, some (.int v2), some (.int (if (9999 - (M 50 16)) < v1 then (9999 - (M 50 16)) else v1)), some (.int 0)] [] M R) : At l G (d + 4) mX7_check 45 [some (.ref (G.1 0)), some (.int v1), some (.int v2), none, none] [] M R := by
  refine a_iload_n eX7_check_45 rfl ?_
  refine a_sipush (v := 9999) eX7_check_46 (by decide) ?_
  refine a_aload_n eX7_check_49 rfl ?_
  refine gX7_4 eX7_check_50 fl_X7_35 ?_
  refine gX1_16 ld50 eX7_check_53 fl_X7_165 ?_
  refine a_isub eX7_check_56 ?_
  refine a_mmin eX7_check_57 ml_X7_151 stMin inMa cwMin (by omega) (Nat.le_of_ble_eq_true rfl) ?_
  refine a_istore_n (vs' := [some (.ref (G.1 0)), some (.int v1), some (.int v2), some (.int (if (9999 - (M 50 16)) < v1 then (9999 - (M 50 16)) else v1)), none]) eX7_check_60 rfl (Nat.le_of_ble_eq_true rfl) rfl ?_
  refine a_iconst (v := 0) eX7_check_61 (by decide) ?_
  refine a_istore (vs' := [some (.ref (G.1 0)), some (.int v1), some (.int v2), some (.int (if (9999 - (M 50 16)) < v1 then (9999 - (M 50 16)) else v1)), some (.int 0)]) eX7_check_62 rfl (Nat.le_of_ble_eq_true rfl) rfl ?_
  exact a_weak [true, false, true, true, true] rfl rfl hv
theorem bX7_check_64 {l : Launch} {G : GT} {d : Nat} {M : Mem} {R : Option Value → Mem → Prop} {v2 : Int32} {v3 : Int32} {v4 : Int32} (hv : (v3 ≤ v4 → (v2 ≤ (2 * v3) → R (some (.int 0)) M) ∧ (¬ (v2 ≤ (2 * v3)) → R (some (.int (1 + (2 * v3)))) M)) ∧ (¬ (v3 ≤ v4) → Tr l G (d + 3) mX1_passDays [.ref (G.1 40), .int 1] M (kV fun M' => At l G (d + 4) mX7_check 78 [some (.ref (G.1 0)), none, some (.int v2), some (.int v3), some (.int v4)] [] M' R))) : At l G (d + 4) mX7_check 64 [some (.ref (G.1 0)), none, some (.int v2), some (.int v3), some (.int v4)] [] M R := by
  refine a_iload eX7_check_64 rfl ?_
  refine a_iload_n eX7_check_66 rfl ?_
  refine a_icmp_ge (tgt := 156) eX7_check_67 (by decide) (fun w1 => ?_) (fun w1 => ?_)
  · replace hv := hv.1 w1
    refine a_iload_n eX7_check_156 rfl ?_
    refine a_iconst (v := 2) eX7_check_157 (by decide) ?_
    refine a_iload_n eX7_check_158 rfl ?_
    refine a_imul eX7_check_159 ?_
    refine a_icmp_le (tgt := 171) eX7_check_160 (by decide) (fun w2 => ?_) (fun w2 => ?_)
    · replace hv := hv.1 w2
      refine a_iconst (v := 0) eX7_check_171 (by decide) ?_
      exact a_iret eX7_check_172 rfl rfl hv
    · replace hv := hv.2 w2
      refine a_iconst (v := 1) eX7_check_163 (by decide) ?_
      refine a_iconst (v := 2) eX7_check_164 (by decide) ?_
      refine a_iload_n eX7_check_165 rfl ?_
      refine a_imul eX7_check_166 ?_
      refine a_iadd eX7_check_167 ?_
      refine a_goto (tgt := 172) eX7_check_168 (by decide) ?_
      exact a_iret eX7_check_172 rfl rfl hv
  · replace hv := hv.2 w1
    refine a_aload_n eX7_check_70 rfl ?_
    refine gX7_3 eX7_check_71 fl_X7_32 ?_
    refine a_iconst (v := 1) eX7_check_74 (by decide) ?_
    exact qX7_168 ld40 rfl eX7_check_75 (Nat.le_of_ble_eq_true rfl) (tr_V [true, false, true, true, true] rfl rfl hv)
theorem bX7_check_78 {l : Launch} {G : GT} {d : Nat} {M : Mem} {R : Option Value → Mem → Prop} {v2 : Int32} {v3 : Int32} {v4 : Int32} (hv : (v2 ≤ (2 * v4) → R (some (.int (1 + (2 * v4)))) M) ∧ (¬ (v2 ≤ (2 * v4)) → vp_in (2 * v4) 60 ∧ ((M 63 (ix (2 * v4))) = (M 40 13) → (v2 ≤ ((2 * v4) + 1) → R (some (.int (2 + (2 * v4)))) M) ∧ (¬ (v2 ≤ ((2 * v4) + 1)) → vp_in ((2 * v4) + 1) 60 ∧ Tr l G (d + 3) mX1_waysBorne [.ref (G.1 40)] M (kI fun q M' => At l G (d + 4) mX7_check 140 [some (.ref (G.1 0)), none, some (.int v2), some (.int v3), some (.int v4)] [.int q, .int (M 63 (ix ((2 * v4) + 1)))] M' R))) ∧ (¬ ((M 63 (ix (2 * v4))) = (M 40 13)) → R (some (.int (1 + (2 * v4)))) M))) : At l G (d + 4) mX7_check 78 [some (.ref (G.1 0)), none, some (.int v2), some (.int v3), some (.int v4)] [] M R := by
  refine a_iconst (v := 2) eX7_check_78 (by decide) ?_
  refine a_iload eX7_check_79 rfl ?_
  refine a_imul eX7_check_81 ?_
  refine a_iload_n eX7_check_82 rfl ?_
  refine a_icmp_ge (tgt := 105) eX7_check_83 (by decide) (fun w1 => ?_) (fun w1 => ?_)
  · replace hv := hv.1 w1
    refine a_iconst (v := 1) eX7_check_105 (by decide) ?_
    refine a_iconst (v := 2) eX7_check_106 (by decide) ?_
    refine a_iload eX7_check_107 rfl ?_
    refine a_imul eX7_check_109 ?_
    refine a_iadd eX7_check_110 ?_
    exact a_iret eX7_check_111 rfl rfl hv
  · replace hv := hv.2 w1
    refine a_aload_n eX7_check_86 rfl ?_
    refine gX7_10 eX7_check_87 fl_X7_49 ?_
    refine a_iconst (v := 2) eX7_check_90 (by decide) ?_
    refine a_iload eX7_check_91 rfl ?_
    refine a_imul eX7_check_93 ?_
    obtain ⟨h2, hv⟩ := hv
    refine a_iald eX7_check_94 sA63 kA63 h2 ?_
    refine a_aload_n eX7_check_95 rfl ?_
    refine gX7_3 eX7_check_96 fl_X7_32 ?_
    refine gX1_13 ld40 eX7_check_99 fl_X7_162 ?_
    refine a_icmp_eq (tgt := 112) eX7_check_102 (by decide) (fun w3 => ?_) (fun w3 => ?_)
    · replace hv := hv.1 w3
      refine a_iconst (v := 2) eX7_check_112 (by decide) ?_
      refine a_iload eX7_check_113 rfl ?_
      refine a_imul eX7_check_115 ?_
      refine a_iconst (v := 1) eX7_check_116 (by decide) ?_
      refine a_iadd eX7_check_117 ?_
      refine a_iload_n eX7_check_118 rfl ?_
      refine a_icmp_ge (tgt := 143) eX7_check_119 (by decide) (fun w4 => ?_) (fun w4 => ?_)
      · replace hv := hv.1 w4
        refine a_iconst (v := 2) eX7_check_143 (by decide) ?_
        refine a_iconst (v := 2) eX7_check_144 (by decide) ?_
        refine a_iload eX7_check_145 rfl ?_
        refine a_imul eX7_check_147 ?_
        refine a_iadd eX7_check_148 ?_
        exact a_iret eX7_check_149 rfl rfl hv
      · replace hv := hv.2 w4
        refine a_aload_n eX7_check_122 rfl ?_
        refine gX7_10 eX7_check_123 fl_X7_49 ?_
        refine a_iconst (v := 2) eX7_check_126 (by decide) ?_
        refine a_iload eX7_check_127 rfl ?_
        refine a_imul eX7_check_129 ?_
        refine a_iconst (v := 1) eX7_check_130 (by decide) ?_
        refine a_iadd eX7_check_131 ?_
        obtain ⟨h5, hv⟩ := hv
        refine a_iald eX7_check_132 sA63 kA63 h5 ?_
        refine a_aload_n eX7_check_133 rfl ?_
        refine gX7_3 eX7_check_134 fl_X7_32 ?_
        exact qX7_178 ld40 rfl eX7_check_137 (Nat.le_of_ble_eq_true rfl) (tr_I [true, false, true, true, true] rfl rfl hv)
    · replace hv := hv.2 w3
      refine a_iconst (v := 1) eX7_check_105 (by decide) ?_
      refine a_iconst (v := 2) eX7_check_106 (by decide) ?_
      refine a_iload eX7_check_107 rfl ?_
      refine a_imul eX7_check_109 ?_
      refine a_iadd eX7_check_110 ?_
      exact a_iret eX7_check_111 rfl rfl hv
theorem bX7_check_140 {l : Launch} {G : GT} {d : Nat} {M : Mem} {R : Option Value → Mem → Prop} {v2 : Int32} {v3 : Int32} {v4 : Int32} {r : Int32} {t1 : Int32} (hv : (t1 = r → At l G (d + 4) mX7_check 64 [some (.ref (G.1 0)), none, some (.int v2), some (.int v3), some (.int (v4 + 1))] [] M R) ∧ (¬ (t1 = r) → R (some (.int (2 + (2 * v4)))) M)) : At l G (d + 4) mX7_check 140 [some (.ref (G.1 0)), none, some (.int v2), some (.int v3), some (.int v4)] [.int r, .int t1] M R := by
  refine a_icmp_eq (tgt := 150) eX7_check_140 (by decide) (fun w1 => ?_) (fun w1 => ?_)
  · replace hv := hv.1 w1
    refine a_iinc (v := 1) (vs' := [some (.ref (G.1 0)), none, some (.int v2), some (.int v3), some (.int (v4 + 1))]) eX7_check_150 rfl rfl (by decide) rfl ?_
    refine a_goto (tgt := 64) eX7_check_153 (by decide) ?_
    exact a_weak [true, false, true, true, true] rfl rfl hv
  · replace hv := hv.2 w1
    refine a_iconst (v := 2) eX7_check_143 (by decide) ?_
    refine a_iconst (v := 2) eX7_check_144 (by decide) ?_
    refine a_iload eX7_check_145 rfl ?_
    refine a_imul eX7_check_147 ?_
    refine a_iadd eX7_check_148 ?_
    exact a_iret eX7_check_149 rfl rfl hv
theorem tX7_keep {l : Launch} {G : GT} {d : Nat} {M : Mem} {R : Option Value → Mem → Prop}  (hv : Tr l G (d + 3) mX1_take [.ref (G.1 50), .ref (G.1 30)] M (kV fun M' => At l G (d + 4) mX7_keep 11 [some (.ref (G.1 0))] [] M' R)) : Tr l G (d + 4) mX7_keep [.ref (G.1 0)] M R := by
  refine Tr.of rfl (Nat.le_of_ble_eq_true rfl) (vs := [some (.ref (G.1 0))]) rfl ?_
  refine a_aload_n eX7_keep_0 rfl ?_
  refine gX7_4 eX7_keep_1 fl_X7_35 ?_
  refine a_aload_n eX7_keep_4 rfl ?_
  refine gX7_2 eX7_keep_5 fl_X7_28 ?_
  exact qX7_212 ld50 rfl eX7_keep_8 (Nat.le_of_ble_eq_true rfl) (tr_V [true] rfl rfl hv)
theorem bX7_keep_11 {l : Launch} {G : GT} {d : Nat} {M : Mem} {R : Option Value → Mem → Prop}  (hv : R (some (.int ((um M 0 5 1) 30 1))) (um M 0 5 1)) : At l G (d + 4) mX7_keep 11 [some (.ref (G.1 0))] [] M R := by
  refine a_aload_n eX7_keep_11 rfl ?_
  refine a_iconst (v := 1) eX7_keep_12 (by decide) ?_
  refine pX7_5 eX7_keep_13 fl_X7_320 ?_
  refine a_aload_n eX7_keep_16 rfl ?_
  refine gX7_2 eX7_keep_17 fl_X7_28 ?_
  refine gX1_1 ld30 eX7_keep_20 fl_X7_148 ?_
  exact a_iret eX7_keep_23 rfl rfl hv
theorem tX7_back {l : Launch} {G : GT} {d : Nat} {M : Mem} {R : Option Value → Mem → Prop}  (hv : ((M 0 5) = 0 → R (some (.int (-1000000002))) M) ∧ (¬ ((M 0 5) = 0) → Tr l G (d + 3) mX1_take [.ref (G.1 30), .ref (G.1 50)] M (kV fun M' => At l G (d + 4) mX7_back 21 [some (.ref (G.1 0))] [] M' R))) : Tr l G (d + 4) mX7_back [.ref (G.1 0)] M R := by
  refine Tr.of rfl (Nat.le_of_ble_eq_true rfl) (vs := [some (.ref (G.1 0))]) rfl ?_
  refine a_aload_n eX7_back_0 rfl ?_
  refine gX7_5 eX7_back_1 fl_X7_320 ?_
  refine a_if_ne (tgt := 10) eX7_back_4 (by decide) (fun w1 => ?_) (fun w1 => ?_)
  · replace hv := hv.2 w1
    refine a_aload_n eX7_back_10 rfl ?_
    refine gX7_2 eX7_back_11 fl_X7_28 ?_
    refine a_aload_n eX7_back_14 rfl ?_
    refine gX7_4 eX7_back_15 fl_X7_35 ?_
    exact qX7_212 ld30 rfl eX7_back_18 (Nat.le_of_ble_eq_true rfl) (tr_V [true] rfl rfl hv)
  · replace hv := hv.1 w1
    refine a_ldc eX7_back_7 kc_X7_120 ?_
    exact a_iret eX7_back_9 rfl rfl hv
theorem bX7_back_21 {l : Launch} {G : GT} {d : Nat} {M : Mem} {R : Option Value → Mem → Prop}  (hv : R (some (.int (M 30 1))) M) : At l G (d + 4) mX7_back 21 [some (.ref (G.1 0))] [] M R := by
  refine a_aload_n eX7_back_21 rfl ?_
  refine gX7_2 eX7_back_22 fl_X7_28 ?_
  refine gX1_1 ld30 eX7_back_25 fl_X7_148 ?_
  exact a_iret eX7_back_28 rfl rfl hv
theorem tX7_count {l : Launch} {G : GT} {d : Nat} {M : Mem} {R : Option Value → Mem → Prop} {v1 : Int32} (hv : (v1 = 0 → R (some (.int (M 30 1))) M) ∧ (v1 = 1 → R (some (.int (M 30 16))) M) ∧ (v1 = 2 → R (some (.int (M 30 6))) M) ∧ (v1 = 3 → R (some (.int (M 30 11))) M) ∧ (v1 = 4 → R (some (.int (M 30 12))) M) ∧ (v1 = 5 → R (some (.int (M 30 18))) M) ∧ (v1 = 6 → R (some (.int (M 0 11))) M) ∧ (v1 = 7 → R (some (.int (M 21 1))) M) ∧ (v1 = 8 → R (some (.int (M 30 17))) M) ∧ (¬ v1 = 0 → ¬ v1 = 1 → ¬ v1 = 2 → ¬ v1 = 3 → ¬ v1 = 4 → ¬ v1 = 5 → ¬ v1 = 6 → ¬ v1 = 7 → ¬ v1 = 8 → R (some (.int (-1000000001))) M)) : Tr l G (d + 4) mX7_count [.ref (G.1 0), .int v1] M R := by
  refine Tr.of rfl (Nat.le_of_ble_eq_true rfl) (vs := [some (.ref (G.1 0)), some (.int v1)]) rfl ?_
  refine a_iload_n eX7_count_0 rfl ?_
  by_cases w1 : v1 = 0
  · refine a_tswIn 0 (tgt := 52) eX7_count_1 w1 (by decide) (by decide) rfl (by decide) ?_
    replace hv := hv.1 w1
    refine a_aload_n eX7_count_52 rfl ?_
    refine gX7_2 eX7_count_53 fl_X7_28 ?_
    refine gX1_1 ld30 eX7_count_56 fl_X7_148 ?_
    exact a_iret eX7_count_59 rfl rfl hv
  by_cases w2 : v1 = 1
  · refine a_tswIn 1 (tgt := 60) eX7_count_1 w2 (by decide) (by decide) rfl (by decide) ?_
    replace hv := hv.2.1 w2
    refine a_aload_n eX7_count_60 rfl ?_
    refine gX7_2 eX7_count_61 fl_X7_28 ?_
    refine gX1_16 ld30 eX7_count_64 fl_X7_165 ?_
    exact a_iret eX7_count_67 rfl rfl hv
  by_cases w3 : v1 = 2
  · refine a_tswIn 2 (tgt := 68) eX7_count_1 w3 (by decide) (by decide) rfl (by decide) ?_
    replace hv := hv.2.2.1 w3
    refine a_aload_n eX7_count_68 rfl ?_
    refine gX7_2 eX7_count_69 fl_X7_28 ?_
    refine gX1_6 ld30 eX7_count_72 fl_X7_215 ?_
    exact a_iret eX7_count_75 rfl rfl hv
  by_cases w4 : v1 = 3
  · refine a_tswIn 3 (tgt := 76) eX7_count_1 w4 (by decide) (by decide) rfl (by decide) ?_
    replace hv := hv.2.2.2.1 w4
    refine a_aload_n eX7_count_76 rfl ?_
    refine gX7_2 eX7_count_77 fl_X7_28 ?_
    refine gX1_11 ld30 eX7_count_80 fl_X7_142 ?_
    exact a_iret eX7_count_83 rfl rfl hv
  by_cases w5 : v1 = 4
  · refine a_tswIn 4 (tgt := 84) eX7_count_1 w5 (by decide) (by decide) rfl (by decide) ?_
    replace hv := hv.2.2.2.2.1 w5
    refine a_aload_n eX7_count_84 rfl ?_
    refine gX7_2 eX7_count_85 fl_X7_28 ?_
    refine gX1_12 ld30 eX7_count_88 fl_X7_145 ?_
    exact a_iret eX7_count_91 rfl rfl hv
  by_cases w6 : v1 = 5
  · refine a_tswIn 5 (tgt := 92) eX7_count_1 w6 (by decide) (by decide) rfl (by decide) ?_
    replace hv := hv.2.2.2.2.2.1 w6
    refine a_aload_n eX7_count_92 rfl ?_
    refine gX7_2 eX7_count_93 fl_X7_28 ?_
    refine gX1_18 ld30 eX7_count_96 fl_X7_255 ?_
    exact a_iret eX7_count_99 rfl rfl hv
  by_cases w7 : v1 = 6
  · refine a_tswIn 6 (tgt := 100) eX7_count_1 w7 (by decide) (by decide) rfl (by decide) ?_
    replace hv := hv.2.2.2.2.2.2.1 w7
    refine a_aload_n eX7_count_100 rfl ?_
    refine gX7_11 eX7_count_101 fl_X7_317 ?_
    exact a_iret eX7_count_104 rfl rfl hv
  by_cases w8 : v1 = 7
  · refine a_tswIn 7 (tgt := 105) eX7_count_1 w8 (by decide) (by decide) rfl (by decide) ?_
    replace hv := hv.2.2.2.2.2.2.2.1 w8
    refine a_aload_n eX7_count_105 rfl ?_
    refine gX7_1 eX7_count_106 fl_X7_19 ?_
    refine gX5_1 eX7_count_109 fl_X7_245 ?_
    exact a_iret eX7_count_112 rfl rfl hv
  by_cases w9 : v1 = 8
  · refine a_tswIn 8 (tgt := 113) eX7_count_1 w9 (by decide) (by decide) rfl (by decide) ?_
    replace hv := hv.2.2.2.2.2.2.2.2.1 w9
    refine a_aload_n eX7_count_113 rfl ?_
    refine gX7_2 eX7_count_114 fl_X7_28 ?_
    refine gX1_17 ld30 eX7_count_117 fl_X7_159 ?_
    exact a_iret eX7_count_120 rfl rfl hv
  refine a_tswOut (tgt := 121) eX7_count_1 (by have zw1 := lv_neT (a := 0) w1 (by decide); have zw2 := lv_neT (a := 1) w2 (by decide); have zw3 := lv_neT (a := 2) w3 (by decide); have zw4 := lv_neT (a := 3) w4 (by decide); have zw5 := lv_neT (a := 4) w5 (by decide); have zw6 := lv_neT (a := 5) w6 (by decide); have zw7 := lv_neT (a := 6) w7 (by decide); have zw8 := lv_neT (a := 7) w8 (by decide); have zw9 := lv_neT (a := 8) w9 (by decide); omega) (by decide) ?_
  replace hv := hv.2.2.2.2.2.2.2.2.2 w1 w2 w3 w4 w5 w6 w7 w8 w9
  refine a_ldc eX7_count_121 kc_X7_73 ?_
  exact a_iret eX7_count_123 rfl rfl hv
