theorem tX0_isUnder {l : Launch} {G : GT} {d : Nat} {M : Mem} {R : Option Value → Mem → Prop} {v0 : Int32} {v1 : Int32} (hv : At l G (d + 4) mX0_isUnder 4 [none, some (.int v1), some (.int v0), some (.int 0)] [] M R) : Tr l G (d + 4) mX0_isUnder [.int v0, .int v1] M R := by
  refine Tr.of rfl (Nat.le_of_ble_eq_true rfl) (vs := [some (.int v0), some (.int v1), none, none]) rfl ?_
  refine a_iload_n eX0_isUnder_0 rfl ?_
  refine a_istore_n (vs' := [some (.int v0), some (.int v1), some (.int v0), none]) eX0_isUnder_1 rfl (Nat.le_of_ble_eq_true rfl) rfl ?_
  refine a_iconst (v := 0) eX0_isUnder_2 (by decide) ?_
  refine a_istore_n (vs' := [some (.int v0), some (.int v1), some (.int v0), some (.int 0)]) eX0_isUnder_3 rfl (Nat.le_of_ble_eq_true rfl) rfl ?_
  exact a_weak [false, true, true, true] rfl rfl hv
theorem bX0_isUnder_4 {l : Launch} {G : GT} {d : Nat} {M : Mem} {R : Option Value → Mem → Prop} {v1 : Int32} {v2 : Int32} {v3 : Int32} (hv : (6 ≤ v3 → R (some (.int 0)) M) ∧ (¬ (6 ≤ v3) → (v2 < 0 → R (some (.int 0)) M) ∧ (¬ (v2 < 0) → (6 ≤ v2 → R (some (.int 0)) M) ∧ (¬ (6 ≤ v2) → (v2 = v1 → R (some (.int 1)) M) ∧ (¬ (v2 = v1) → vp_in v2 6 ∧ At l G (d + 4) mX0_isUnder 4 [none, some (.int v1), some (.int (kav v2)), some (.int (v3 + 1))] [] M R))))) : At l G (d + 4) mX0_isUnder 4 [none, some (.int v1), some (.int v2), some (.int v3)] [] M R := by
  refine a_iload_n eX0_isUnder_4 rfl ?_
  refine a_bipush (v := 6) eX0_isUnder_5 (by decide) ?_
  refine a_icmp_ge (tgt := 39) eX0_isUnder_7 (by decide) (fun w1 => ?_) (fun w1 => ?_)
  · replace hv := hv.1 w1
    refine a_iconst (v := 0) eX0_isUnder_39 (by decide) ?_
    exact a_iret eX0_isUnder_40 rfl rfl hv
  · replace hv := hv.2 w1
    refine a_iload_n eX0_isUnder_10 rfl ?_
    refine a_if_lt (tgt := 39) eX0_isUnder_11 (by decide) (fun w2 => ?_) (fun w2 => ?_)
    · replace hv := hv.1 w2
      refine a_iconst (v := 0) eX0_isUnder_39 (by decide) ?_
      exact a_iret eX0_isUnder_40 rfl rfl hv
    · replace hv := hv.2 w2
      refine a_iload_n eX0_isUnder_14 rfl ?_
      refine a_bipush (v := 6) eX0_isUnder_15 (by decide) ?_
      refine a_icmp_ge (tgt := 39) eX0_isUnder_17 (by decide) (fun w3 => ?_) (fun w3 => ?_)
      · replace hv := hv.1 w3
        refine a_iconst (v := 0) eX0_isUnder_39 (by decide) ?_
        exact a_iret eX0_isUnder_40 rfl rfl hv
      · replace hv := hv.2 w3
        refine a_iload_n eX0_isUnder_20 rfl ?_
        refine a_iload_n eX0_isUnder_21 rfl ?_
        refine a_icmp_ne (tgt := 27) eX0_isUnder_22 (by decide) (fun w4 => ?_) (fun w4 => ?_)
        · replace hv := hv.2 w4
          refine a_getKA eX0_isUnder_27 rfl ?_
          refine a_iload_n eX0_isUnder_30 rfl ?_
          obtain ⟨h5, hv⟩ := hv
          refine a_ialdT eX0_isUnder_31 h5 ?_
          refine a_istore_n (vs' := [none, some (.int v1), some (.int (kav v2)), some (.int v3)]) eX0_isUnder_32 rfl (Nat.le_of_ble_eq_true rfl) rfl ?_
          refine a_iinc (v := 1) (vs' := [none, some (.int v1), some (.int (kav v2)), some (.int (v3 + 1))]) eX0_isUnder_33 rfl rfl (by decide) rfl ?_
          refine a_goto (tgt := 4) eX0_isUnder_36 (by decide) ?_
          exact a_weak [false, true, true, true] rfl rfl hv
        · replace hv := hv.1 w4
          refine a_iconst (v := 1) eX0_isUnder_25 (by decide) ?_
          exact a_iret eX0_isUnder_26 rfl rfl hv
theorem tX0_learns {l : Launch} {G : GT} {d : Nat} {M : Mem} {R : Option Value → Mem → Prop} {v0 : Int32} (hv : Tr l G (d + 3) mX0_isUnder [.int v0, .int 2] M (kI fun q M' => At l G (d + 4) mX0_learns 5 [none] [.int q] M' R)) : Tr l G (d + 4) mX0_learns [.int v0] M R := by
  refine Tr.of rfl (Nat.le_of_ble_eq_true rfl) (vs := [some (.int v0)]) rfl ?_
  refine a_iload_n eX0_learns_0 rfl ?_
  refine a_iconst (v := 2) eX0_learns_1 (by decide) ?_
  exact qX0_13 rfl eX0_learns_2 (Nat.le_of_ble_eq_true rfl) (tr_I [false] rfl rfl hv)
theorem bX0_learns_5 {l : Launch} {G : GT} {d : Nat} {M : Mem} {R : Option Value → Mem → Prop} {r : Int32} (hv : (r = 0 → R (some (.int 1)) M) ∧ (¬ (r = 0) → R (some (.int 0)) M)) : At l G (d + 4) mX0_learns 5 [none] [.int r] M R := by
  refine a_if_ne (tgt := 12) eX0_learns_5 (by decide) (fun w1 => ?_) (fun w1 => ?_)
  · replace hv := hv.2 w1
    refine a_iconst (v := 0) eX0_learns_12 (by decide) ?_
    exact a_iret eX0_learns_13 rfl rfl hv
  · replace hv := hv.1 w1
    refine a_iconst (v := 1) eX0_learns_8 (by decide) ?_
    refine a_goto (tgt := 13) eX0_learns_9 (by decide) ?_
    exact a_iret eX0_learns_13 rfl rfl hv
theorem tX0_worth {l : Launch} {G : GT} {d : Nat} {M : Mem} {R : Option Value → Mem → Prop} {v0 : Int32} {v1 : Int32} (hv : Tr l G (d + 3) mJ6_bitCount_0f7a4 [.int v1] M (kI fun q M' => At l G (d + 4) mX0_worth 4 [some (.int v0), none, none] [.int q] M' R)) : Tr l G (d + 4) mX0_worth [.int v0, .int v1] M R := by
  refine Tr.of rfl (Nat.le_of_ble_eq_true rfl) (vs := [some (.int v0), some (.int v1), none]) rfl ?_
  refine a_iload_n eX0_worth_0 rfl ?_
  exact qX0_19 rfl eX0_worth_1 (Nat.le_of_ble_eq_true rfl) (tr_I [true, false, false] rfl rfl hv)
theorem bX0_worth_4 {l : Launch} {G : GT} {d : Nat} {M : Mem} {R : Option Value → Mem → Prop} {v0 : Int32} {r : Int32} (hv : (v0 = 1 → R (some (.int (r + 5))) M) ∧ (v0 = 2 → R (some (.int (40 - r))) M) ∧ (v0 = 3 → R (some (.int (2 * (r + 5)))) M) ∧ (v0 = 4 → R (some (.int ((40 - r) - 4))) M) ∧ (v0 = 5 → R (some (.int 3)) M) ∧ (¬ v0 = 1 → ¬ v0 = 2 → ¬ v0 = 3 → ¬ v0 = 4 → ¬ v0 = 5 → R (some (.int r)) M)) : At l G (d + 4) mX0_worth 4 [some (.int v0), none, none] [.int r] M R := by
  refine a_istore_n (vs' := [some (.int v0), none, some (.int r)]) eX0_worth_4 rfl (Nat.le_of_ble_eq_true rfl) rfl ?_
  refine a_iload_n eX0_worth_5 rfl ?_
  by_cases w1 : v0 = 1
  · refine a_tswIn 1 (tgt := 40) eX0_worth_6 w1 (by decide) (by decide) rfl (by decide) ?_
    replace hv := hv.1 w1
    refine a_iload_n eX0_worth_40 rfl ?_
    refine a_iconst (v := 5) eX0_worth_41 (by decide) ?_
    refine a_iadd eX0_worth_42 ?_
    exact a_iret eX0_worth_43 rfl rfl hv
  by_cases w2 : v0 = 2
  · refine a_tswIn 2 (tgt := 50) eX0_worth_6 w2 (by decide) (by decide) rfl (by decide) ?_
    replace hv := hv.2.1 w2
    refine a_bipush (v := 40) eX0_worth_50 (by decide) ?_
    refine a_iload_n eX0_worth_52 rfl ?_
    refine a_isub eX0_worth_53 ?_
    exact a_iret eX0_worth_54 rfl rfl hv
  by_cases w3 : v0 = 3
  · refine a_tswIn 3 (tgt := 44) eX0_worth_6 w3 (by decide) (by decide) rfl (by decide) ?_
    replace hv := hv.2.2.1 w3
    refine a_iconst (v := 2) eX0_worth_44 (by decide) ?_
    refine a_iload_n eX0_worth_45 rfl ?_
    refine a_iconst (v := 5) eX0_worth_46 (by decide) ?_
    refine a_iadd eX0_worth_47 ?_
    refine a_imul eX0_worth_48 ?_
    exact a_iret eX0_worth_49 rfl rfl hv
  by_cases w4 : v0 = 4
  · refine a_tswIn 4 (tgt := 55) eX0_worth_6 w4 (by decide) (by decide) rfl (by decide) ?_
    replace hv := hv.2.2.2.1 w4
    refine a_bipush (v := 40) eX0_worth_55 (by decide) ?_
    refine a_iload_n eX0_worth_57 rfl ?_
    refine a_isub eX0_worth_58 ?_
    refine a_iconst (v := 4) eX0_worth_59 (by decide) ?_
    refine a_isub eX0_worth_60 ?_
    exact a_iret eX0_worth_61 rfl rfl hv
  by_cases w5 : v0 = 5
  · refine a_tswIn 5 (tgt := 62) eX0_worth_6 w5 (by decide) (by decide) rfl (by decide) ?_
    replace hv := hv.2.2.2.2.1 w5
    refine a_iconst (v := 3) eX0_worth_62 (by decide) ?_
    exact a_iret eX0_worth_63 rfl rfl hv
  refine a_tswOut (tgt := 64) eX0_worth_6 (by have zw1 := lv_neT (a := 1) w1 (by decide); have zw2 := lv_neT (a := 2) w2 (by decide); have zw3 := lv_neT (a := 3) w3 (by decide); have zw4 := lv_neT (a := 4) w4 (by decide); have zw5 := lv_neT (a := 5) w5 (by decide); omega) (by decide) ?_
  replace hv := hv.2.2.2.2.2 w1 w2 w3 w4 w5
  refine a_iload_n eX0_worth_64 rfl ?_
  exact a_iret eX0_worth_65 rfl rfl hv
theorem tX1_take {l : Launch} {G : GT} {d : Nat} {M : Mem} {R : Option Value → Mem → Prop} {b : Nat} (hb : IsLd b) {a1 : Nat} (ha1 : IsLd a1) (hv : ∀ M1 : Mem, M1 = ua (um M b 1 (M a1 1)) (b + 1) (va_cpy ((um M b 1 (M a1 1)) (a1 + 1)) ((um M b 1 (M a1 1)) (b + 1)) (ix 0) (ix 0) (ix 8)) → ∀ M2 : Mem, M2 = ua M1 (b + 2) (va_cpy (M1 (a1 + 2)) (M1 (b + 2)) (ix 0) (ix 0) (ix 8)) → ∀ M3 : Mem, M3 = ua M2 (b + 3) (va_cpy (M2 (a1 + 3)) (M2 (b + 3)) (ix 0) (ix 0) (ix 8)) → ∀ M4 : Mem, M4 = ua M3 (b + 4) (va_cpy (M3 (a1 + 4)) (M3 (b + 4)) (ix 0) (ix 0) (ix 8)) → ∀ M5 : Mem, M5 = ua (um M4 b 6 (M4 a1 6)) (b + 5) (va_cpy ((um M4 b 6 (M4 a1 6)) (a1 + 5)) ((um M4 b 6 (M4 a1 6)) (b + 5)) (ix 0) (ix 0) (ix 14)) → ∀ M6 : Mem, M6 = ua M5 (b + 6) (va_cpy (M5 (a1 + 6)) (M5 (b + 6)) (ix 0) (ix 0) (ix 14)) → ∀ M7 : Mem, M7 = ua M6 (b + 7) (va_cpy (M6 (a1 + 7)) (M6 (b + 7)) (ix 0) (ix 0) (ix 10)) → ∀ M8 : Mem, M8 = um (um M7 b 10 (M7 a1 10)) b 11 ((um M7 b 10 (M7 a1 10)) a1 11) → ∀ M9 : Mem, M9 = um (um M8 b 12 (M8 a1 12)) b 13 ((um M8 b 12 (M8 a1 12)) a1 13) → ∀ M10 : Mem, M10 = um (um M9 b 14 (M9 a1 14)) b 15 ((um M9 b 14 (M9 a1 14)) a1 15) → ∀ M11 : Mem, M11 = um (um M10 b 16 (M10 a1 16)) b 17 ((um M10 b 16 (M10 a1 16)) a1 17) → ∀ M12 : Mem, M12 = ua (um M11 b 18 (M11 a1 18)) (b + 8) (va_cpy ((um M11 b 18 (M11 a1 18)) (a1 + 8)) ((um M11 b 18 (M11 a1 18)) (b + 8)) (ix 0) (ix 0) (ix 3)) → R none M12) : Tr l G (d + 4) mX1_take [.ref (G.1 b), .ref (G.1 a1)] M R := by
  refine Tr.of rfl (Nat.le_of_ble_eq_true rfl) (vs := [some (.ref (G.1 b)), some (.ref (G.1 a1))]) rfl ?_
  refine a_aload_n eX1_take_0 rfl ?_
  refine a_aload_n eX1_take_1 rfl ?_
  refine gX1_1 ha1 eX1_take_2 fl_X1_51 ?_
  refine pX1_1 hb eX1_take_5 fl_X1_51 ?_
  refine a_aload_n eX1_take_8 rfl ?_
  refine gX1_2 ha1 eX1_take_9 fl_X1_9 ?_
  refine a_iconst (v := 0) eX1_take_12 (by decide) ?_
  refine a_aload_n eX1_take_13 rfl ?_
  refine gX1_2 hb eX1_take_14 fl_X1_9 ?_
  refine a_iconst (v := 0) eX1_take_17 (by decide) ?_
  refine a_bipush (v := 8) eX1_take_18 (by decide) ?_
  refine a_copy eX1_take_20 ml_X1_54 nmA stA inA (ld_8 ha1 1 (by decide)) (ld_in ha1 1 (by decide)) (ld_8 hb 1 (by decide)) (ld_in hb 1 (by decide)) (by decide) (by decide) (by decide) (by decide) (by decide) (by omega) (Nat.le_of_ble_eq_true rfl) ?_
  refine a_nm (fun M1 eM1 => ?_)
  replace hv := hv M1 eM1
  refine a_aload_n eX1_take_23 rfl ?_
  refine gX1_3 ha1 eX1_take_24 fl_X1_15 ?_
  refine a_iconst (v := 0) eX1_take_27 (by decide) ?_
  refine a_aload_n eX1_take_28 rfl ?_
  refine gX1_3 hb eX1_take_29 fl_X1_15 ?_
  refine a_iconst (v := 0) eX1_take_32 (by decide) ?_
  refine a_bipush (v := 8) eX1_take_33 (by decide) ?_
  refine a_copy eX1_take_35 ml_X1_54 nmA stA inA (ld_8 ha1 2 (by decide)) (ld_in ha1 2 (by decide)) (ld_8 hb 2 (by decide)) (ld_in hb 2 (by decide)) (by decide) (by decide) (by decide) (by decide) (by decide) (by omega) (Nat.le_of_ble_eq_true rfl) ?_
  refine a_nm (fun M2 eM2 => ?_)
  replace hv := hv M2 eM2
  refine a_aload_n eX1_take_38 rfl ?_
  refine gX1_4 ha1 eX1_take_39 fl_X1_18 ?_
  refine a_iconst (v := 0) eX1_take_42 (by decide) ?_
  refine a_aload_n eX1_take_43 rfl ?_
  refine gX1_4 hb eX1_take_44 fl_X1_18 ?_
  refine a_iconst (v := 0) eX1_take_47 (by decide) ?_
  refine a_bipush (v := 8) eX1_take_48 (by decide) ?_
  refine a_copy eX1_take_50 ml_X1_54 nmA stA inA (ld_8 ha1 3 (by decide)) (ld_in ha1 3 (by decide)) (ld_8 hb 3 (by decide)) (ld_in hb 3 (by decide)) (by decide) (by decide) (by decide) (by decide) (by decide) (by omega) (Nat.le_of_ble_eq_true rfl) ?_
  refine a_nm (fun M3 eM3 => ?_)
  replace hv := hv M3 eM3
  refine a_aload_n eX1_take_53 rfl ?_
  refine gX1_5 ha1 eX1_take_54 fl_X1_21 ?_
  refine a_iconst (v := 0) eX1_take_57 (by decide) ?_
  refine a_aload_n eX1_take_58 rfl ?_
  refine gX1_5 hb eX1_take_59 fl_X1_21 ?_
  refine a_iconst (v := 0) eX1_take_62 (by decide) ?_
  refine a_bipush (v := 8) eX1_take_63 (by decide) ?_
  refine a_copy eX1_take_65 ml_X1_54 nmA stA inA (ld_8 ha1 4 (by decide)) (ld_in ha1 4 (by decide)) (ld_8 hb 4 (by decide)) (ld_in hb 4 (by decide)) (by decide) (by decide) (by decide) (by decide) (by decide) (by omega) (Nat.le_of_ble_eq_true rfl) ?_
  refine a_nm (fun M4 eM4 => ?_)
  replace hv := hv M4 eM4
  refine a_aload_n eX1_take_68 rfl ?_
  refine a_aload_n eX1_take_69 rfl ?_
  refine gX1_6 ha1 eX1_take_70 fl_X1_60 ?_
  refine pX1_6 hb eX1_take_73 fl_X1_60 ?_
  refine a_aload_n eX1_take_76 rfl ?_
  refine gX1_7 ha1 eX1_take_77 fl_X1_24 ?_
  refine a_iconst (v := 0) eX1_take_80 (by decide) ?_
  refine a_aload_n eX1_take_81 rfl ?_
  refine gX1_7 hb eX1_take_82 fl_X1_24 ?_
  refine a_iconst (v := 0) eX1_take_85 (by decide) ?_
  refine a_bipush (v := 14) eX1_take_86 (by decide) ?_
  refine a_copy eX1_take_88 ml_X1_54 nmA stA inA (ld_5 ha1) (ld_in ha1 5 (by decide)) (ld_5 hb) (ld_in hb 5 (by decide)) (by decide) (by decide) (by decide) (by decide) (by decide) (by omega) (Nat.le_of_ble_eq_true rfl) ?_
  refine a_nm (fun M5 eM5 => ?_)
  replace hv := hv M5 eM5
  refine a_aload_n eX1_take_91 rfl ?_
  refine gX1_8 ha1 eX1_take_92 fl_X1_27 ?_
  refine a_iconst (v := 0) eX1_take_95 (by decide) ?_
  refine a_aload_n eX1_take_96 rfl ?_
  refine gX1_8 hb eX1_take_97 fl_X1_27 ?_
  refine a_iconst (v := 0) eX1_take_100 (by decide) ?_
  refine a_bipush (v := 14) eX1_take_101 (by decide) ?_
  refine a_copy eX1_take_103 ml_X1_54 nmA stA inA (ld_6 ha1) (ld_in ha1 6 (by decide)) (ld_6 hb) (ld_in hb 6 (by decide)) (by decide) (by decide) (by decide) (by decide) (by decide) (by omega) (Nat.le_of_ble_eq_true rfl) ?_
  refine a_nm (fun M6 eM6 => ?_)
  replace hv := hv M6 eM6
  refine a_aload_n eX1_take_106 rfl ?_
  refine gX1_9 ha1 eX1_take_107 fl_X1_30 ?_
  refine a_iconst (v := 0) eX1_take_110 (by decide) ?_
  refine a_aload_n eX1_take_111 rfl ?_
  refine gX1_9 hb eX1_take_112 fl_X1_30 ?_
  refine a_iconst (v := 0) eX1_take_115 (by decide) ?_
  refine a_bipush (v := 10) eX1_take_116 (by decide) ?_
  refine a_copy eX1_take_118 ml_X1_54 nmA stA inA (ld_7 ha1) (ld_in ha1 7 (by decide)) (ld_7 hb) (ld_in hb 7 (by decide)) (by decide) (by decide) (by decide) (by decide) (by decide) (by omega) (Nat.le_of_ble_eq_true rfl) ?_
  refine a_nm (fun M7 eM7 => ?_)
  replace hv := hv M7 eM7
  refine a_aload_n eX1_take_121 rfl ?_
  refine a_aload_n eX1_take_122 rfl ?_
  refine gX1_10 ha1 eX1_take_123 fl_X1_63 ?_
  refine pX1_10 hb eX1_take_126 fl_X1_63 ?_
  refine a_aload_n eX1_take_129 rfl ?_
  refine a_aload_n eX1_take_130 rfl ?_
  refine gX1_11 ha1 eX1_take_131 fl_X1_33 ?_
  refine pX1_11 hb eX1_take_134 fl_X1_33 ?_
  refine a_nm (fun M8 eM8 => ?_)
  replace hv := hv M8 eM8
  refine a_aload_n eX1_take_137 rfl ?_
  refine a_aload_n eX1_take_138 rfl ?_
  refine gX1_12 ha1 eX1_take_139 fl_X1_37 ?_
  refine pX1_12 hb eX1_take_142 fl_X1_37 ?_
  refine a_aload_n eX1_take_145 rfl ?_
  refine a_aload_n eX1_take_146 rfl ?_
  refine gX1_13 ha1 eX1_take_147 fl_X1_66 ?_
  refine pX1_13 hb eX1_take_150 fl_X1_66 ?_
  refine a_nm (fun M9 eM9 => ?_)
  replace hv := hv M9 eM9
  refine a_aload_n eX1_take_153 rfl ?_
  refine a_aload_n eX1_take_154 rfl ?_
  refine gX1_14 ha1 eX1_take_155 fl_X1_69 ?_
  refine pX1_14 hb eX1_take_158 fl_X1_69 ?_
  refine a_aload_n eX1_take_161 rfl ?_
  refine a_aload_n eX1_take_162 rfl ?_
  refine gX1_15 ha1 eX1_take_163 fl_X1_72 ?_
  refine pX1_15 hb eX1_take_166 fl_X1_72 ?_
  refine a_nm (fun M10 eM10 => ?_)
  replace hv := hv M10 eM10
  refine a_aload_n eX1_take_169 rfl ?_
  refine a_aload_n eX1_take_170 rfl ?_
  refine gX1_16 ha1 eX1_take_171 fl_X1_75 ?_
  refine pX1_16 hb eX1_take_174 fl_X1_75 ?_
  refine a_aload_n eX1_take_177 rfl ?_
  refine a_aload_n eX1_take_178 rfl ?_
  refine gX1_17 ha1 eX1_take_179 fl_X1_40 ?_
  refine pX1_17 hb eX1_take_182 fl_X1_40 ?_
  refine a_nm (fun M11 eM11 => ?_)
  replace hv := hv M11 eM11
  refine a_aload_n eX1_take_185 rfl ?_
  refine a_aload_n eX1_take_186 rfl ?_
  refine gX1_18 ha1 eX1_take_187 fl_X1_78 ?_
  refine pX1_18 hb eX1_take_190 fl_X1_78 ?_
  refine a_aload_n eX1_take_193 rfl ?_
  refine gX1_19 ha1 eX1_take_194 fl_X1_44 ?_
  refine a_iconst (v := 0) eX1_take_197 (by decide) ?_
  refine a_aload_n eX1_take_198 rfl ?_
  refine gX1_19 hb eX1_take_199 fl_X1_44 ?_
  refine a_iconst (v := 0) eX1_take_202 (by decide) ?_
  refine a_iconst (v := 3) eX1_take_203 (by decide) ?_
  refine a_copy eX1_take_204 ml_X1_54 nmA stA inA (ld_8c ha1) (ld_in ha1 8 (by decide)) (ld_8c hb) (ld_in hb 8 (by decide)) (by decide) (by decide) (by decide) (by decide) (by decide) (by omega) (Nat.le_of_ble_eq_true rfl) ?_
  refine a_nm (fun M12 eM12 => ?_)
  replace hv := hv M12 eM12
  exact a_vret eX1_take_207 rfl hv
theorem tX1_addOne {l : Launch} {G : GT} {d : Nat} {M : Mem} {R : Option Value → Mem → Prop} {b : Nat} (hb : IsLd b) {v1 : Int32} {v2 : Int32} {v3 : Int32} {v4 : Int32} (hv : ((M b 1) < 8 → vp_in (M b 1) 8 ∧ vp_in (M b 1) 8 ∧ vp_in (M b 1) 8 ∧ ∀ M5 : Mem, M5 = um (um (um M (b + 1) (ix (M b 1)) v1) (b + 2) (ix (M b 1)) v2) (b + 3) (ix (M b 1)) v3 → vp_in (M b 1) 8 ∧ ∀ M7 : Mem, M7 = um (um M5 (b + 4) (ix (M b 1)) v4) b 1 (((um M5 (b + 4) (ix (M b 1)) v4) b 1) + 1) → R (some (.int (M b 1))) M7) ∧ (¬ ((M b 1) < 8) → R (some (.int (-1000000003))) M)) : Tr l G (d + 4) mX1_addOne [.ref (G.1 b), .int v1, .int v2, .int v3, .int v4] M R := by
  refine Tr.of rfl (Nat.le_of_ble_eq_true rfl) (vs := [some (.ref (G.1 b)), some (.int v1), some (.int v2), some (.int v3), some (.int v4), none]) rfl ?_
  refine a_aload_n eX1_addOne_0 rfl ?_
  refine gX1_1 hb eX1_addOne_1 fl_X1_51 ?_
  refine a_bipush (v := 8) eX1_addOne_4 (by decide) ?_
  refine a_icmp_lt (tgt := 12) eX1_addOne_6 (by decide) (fun w1 => ?_) (fun w1 => ?_)
  · replace hv := hv.1 w1
    refine a_aload_n eX1_addOne_12 rfl ?_
    refine gX1_1 hb eX1_addOne_13 fl_X1_51 ?_
    refine a_istore (vs' := [some (.ref (G.1 b)), some (.int v1), some (.int v2), some (.int v3), some (.int v4), some (.int (M b 1))]) eX1_addOne_16 rfl (Nat.le_of_ble_eq_true rfl) rfl ?_
    refine a_aload_n eX1_addOne_18 rfl ?_
    refine gX1_2 hb eX1_addOne_19 fl_X1_9 ?_
    refine a_iload eX1_addOne_22 rfl ?_
    refine a_iload_n eX1_addOne_24 rfl ?_
    obtain ⟨h2, hv⟩ := hv
    refine a_iast eX1_addOne_25 (ld_8 hb 1 (by decide)) (ld_in hb 1 (by decide)) h2 ?_
    refine a_aload_n eX1_addOne_26 rfl ?_
    refine gX1_3 hb eX1_addOne_27 fl_X1_15 ?_
    refine a_iload eX1_addOne_30 rfl ?_
    refine a_iload_n eX1_addOne_32 rfl ?_
    obtain ⟨h3, hv⟩ := hv
    refine a_iast eX1_addOne_33 (ld_8 hb 2 (by decide)) (ld_in hb 2 (by decide)) h3 ?_
    refine a_aload_n eX1_addOne_34 rfl ?_
    refine gX1_4 hb eX1_addOne_35 fl_X1_18 ?_
    refine a_iload eX1_addOne_38 rfl ?_
    refine a_iload_n eX1_addOne_40 rfl ?_
    obtain ⟨h4, hv⟩ := hv
    refine a_iast eX1_addOne_41 (ld_8 hb 3 (by decide)) (ld_in hb 3 (by decide)) h4 ?_
    refine a_nm (fun M5 eM5 => ?_)
    replace hv := hv M5 eM5
    refine a_aload_n eX1_addOne_42 rfl ?_
    refine gX1_5 hb eX1_addOne_43 fl_X1_21 ?_
    refine a_iload eX1_addOne_46 rfl ?_
    refine a_iload eX1_addOne_48 rfl ?_
    obtain ⟨h6, hv⟩ := hv
    refine a_iast eX1_addOne_50 (ld_8 hb 4 (by decide)) (ld_in hb 4 (by decide)) h6 ?_
    refine a_aload_n eX1_addOne_51 rfl ?_
    refine a_dup eX1_addOne_52 rfl ?_
    refine gX1_1 hb eX1_addOne_53 fl_X1_51 ?_
    refine a_iconst (v := 1) eX1_addOne_56 (by decide) ?_
    refine a_iadd eX1_addOne_57 ?_
    refine pX1_1 hb eX1_addOne_58 fl_X1_51 ?_
    refine a_nm (fun M7 eM7 => ?_)
    replace hv := hv M7 eM7
    refine a_iload eX1_addOne_61 rfl ?_
    exact a_iret eX1_addOne_63 rfl rfl hv
  · replace hv := hv.2 w1
    refine a_ldc eX1_addOne_9 kc_X1_81 ?_
    exact a_iret eX1_addOne_11 rfl rfl hv
theorem tX1_addDrawn {l : Launch} {G : GT} {d : Nat} {M : Mem} {R : Option Value → Mem → Prop} {b : Nat} (hb : IsLd b) (hv : ∀ M1 : Mem, M1 = um (um M b 17 (((M b 17) * 1103515245) + 12345)) b 17 ((((um M b 17 (((M b 17) * 1103515245) + 12345)) b 17) * 1103515245) + 12345) → ∀ M2 : Mem, M2 = um (um M1 b 17 (((M1 b 17) * 1103515245) + 12345)) b 17 ((((um M1 b 17 (((M1 b 17) * 1103515245) + 12345)) b 17) * 1103515245) + 12345) → Tr l G (d + 3) mX1_addOne [.ref (G.1 b), .int (((((um M b 17 (((M b 17) * 1103515245) + 12345)) b 17).toUInt32 >>> ((8 : Int32).toUInt32 &&& Int32.toUInt32 31)).toInt32) - ((((um M b 17 (((M b 17) * 1103515245) + 12345)) b 17).toUInt32 >>> ((8 : Int32).toUInt32 &&& Int32.toUInt32 31)).toInt32) / 6 * 6), .int ((((M1 b 17).toUInt32 >>> ((8 : Int32).toUInt32 &&& Int32.toUInt32 31)).toInt32) - (((M1 b 17).toUInt32 >>> ((8 : Int32).toUInt32 &&& Int32.toUInt32 31)).toInt32) / 10 * 10), .int (((((um M1 b 17 (((M1 b 17) * 1103515245) + 12345)) b 17).toUInt32 >>> ((8 : Int32).toUInt32 &&& Int32.toUInt32 31)).toInt32) - ((((um M1 b 17 (((M1 b 17) * 1103515245) + 12345)) b 17).toUInt32 >>> ((8 : Int32).toUInt32 &&& Int32.toUInt32 31)).toInt32) / 80 * 80), .int ((((M2 b 17).toUInt32 >>> ((8 : Int32).toUInt32 &&& Int32.toUInt32 31)).toInt32) &&& (((1 : Int32) <<< ((M2 b 6) &&& 31)) - 1))] M2 (kI fun q M' => At l G (d + 4) mX1_addDrawn 44 [none, none, none, none, none] [.int q] M' R)) : Tr l G (d + 4) mX1_addDrawn [.ref (G.1 b)] M R := by
  refine Tr.of rfl (Nat.le_of_ble_eq_true rfl) (vs := [some (.ref (G.1 b)), none, none, none, none]) rfl ?_
  refine a_aload_n eX1_addDrawn_0 rfl ?_
  refine qX1_82 hb rfl eX1_addDrawn_1 (Nat.le_of_ble_eq_true rfl) ?_
  refine Tr.of rfl (Nat.le_of_ble_eq_true rfl) (vs := [some (.ref (G.1 b))]) rfl ?_
  refine a_aload_n eX1_draw_0 rfl ?_
  refine a_aload_n eX1_draw_1 rfl ?_
  refine gX1_17 hb eX1_draw_2 fl_X1_40 ?_
  refine a_ldc eX1_draw_5 kc_X1_121 ?_
  refine a_imul eX1_draw_7 ?_
  refine a_sipush (v := 12345) eX1_draw_8 (by decide) ?_
  refine a_iadd eX1_draw_11 ?_
  refine pX1_17 hb eX1_draw_12 fl_X1_40 ?_
  refine a_aload_n eX1_draw_15 rfl ?_
  refine gX1_17 hb eX1_draw_16 fl_X1_40 ?_
  refine a_bipush (v := 8) eX1_draw_19 (by decide) ?_
  refine a_iushr eX1_draw_21 ?_
  refine a_iret eX1_draw_22 rfl rfl (ret_i ?_)
  refine a_bipush (v := 6) eX1_addDrawn_4 (by decide) ?_
  refine a_irem eX1_addDrawn_6 (by decide) ?_
  refine a_istore_n (vs' := [some (.ref (G.1 b)), some (.int (((((um M b 17 (((M b 17) * 1103515245) + 12345)) b 17).toUInt32 >>> ((8 : Int32).toUInt32 &&& Int32.toUInt32 31)).toInt32) - ((((um M b 17 (((M b 17) * 1103515245) + 12345)) b 17).toUInt32 >>> ((8 : Int32).toUInt32 &&& Int32.toUInt32 31)).toInt32) / 6 * 6)), none, none, none]) eX1_addDrawn_7 rfl (Nat.le_of_ble_eq_true rfl) rfl ?_
  refine a_aload_n eX1_addDrawn_8 rfl ?_
  refine qX1_82 hb rfl eX1_addDrawn_9 (Nat.le_of_ble_eq_true rfl) ?_
  refine Tr.of rfl (Nat.le_of_ble_eq_true rfl) (vs := [some (.ref (G.1 b))]) rfl ?_
  refine a_aload_n eX1_draw_0 rfl ?_
  refine a_aload_n eX1_draw_1 rfl ?_
  refine gX1_17 hb eX1_draw_2 fl_X1_40 ?_
  refine a_ldc eX1_draw_5 kc_X1_121 ?_
  refine a_imul eX1_draw_7 ?_
  refine a_sipush (v := 12345) eX1_draw_8 (by decide) ?_
  refine a_iadd eX1_draw_11 ?_
  refine pX1_17 hb eX1_draw_12 fl_X1_40 ?_
  refine a_nm (fun M1 eM1 => ?_)
  replace hv := hv M1 eM1
  refine a_aload_n eX1_draw_15 rfl ?_
  refine gX1_17 hb eX1_draw_16 fl_X1_40 ?_
  refine a_bipush (v := 8) eX1_draw_19 (by decide) ?_
  refine a_iushr eX1_draw_21 ?_
  refine a_iret eX1_draw_22 rfl rfl (ret_i ?_)
  refine a_bipush (v := 10) eX1_addDrawn_12 (by decide) ?_
  refine a_irem eX1_addDrawn_14 (by decide) ?_
  refine a_istore_n (vs' := [some (.ref (G.1 b)), some (.int (((((um M b 17 (((M b 17) * 1103515245) + 12345)) b 17).toUInt32 >>> ((8 : Int32).toUInt32 &&& Int32.toUInt32 31)).toInt32) - ((((um M b 17 (((M b 17) * 1103515245) + 12345)) b 17).toUInt32 >>> ((8 : Int32).toUInt32 &&& Int32.toUInt32 31)).toInt32) / 6 * 6)), some (.int ((((M1 b 17).toUInt32 >>> ((8 : Int32).toUInt32 &&& Int32.toUInt32 31)).toInt32) - (((M1 b 17).toUInt32 >>> ((8 : Int32).toUInt32 &&& Int32.toUInt32 31)).toInt32) / 10 * 10)), none, none]) eX1_addDrawn_15 rfl (Nat.le_of_ble_eq_true rfl) rfl ?_
  refine a_aload_n eX1_addDrawn_16 rfl ?_
  refine qX1_82 hb rfl eX1_addDrawn_17 (Nat.le_of_ble_eq_true rfl) ?_
  refine Tr.of rfl (Nat.le_of_ble_eq_true rfl) (vs := [some (.ref (G.1 b))]) rfl ?_
  refine a_aload_n eX1_draw_0 rfl ?_
  refine a_aload_n eX1_draw_1 rfl ?_
  refine gX1_17 hb eX1_draw_2 fl_X1_40 ?_
  refine a_ldc eX1_draw_5 kc_X1_121 ?_
  refine a_imul eX1_draw_7 ?_
  refine a_sipush (v := 12345) eX1_draw_8 (by decide) ?_
  refine a_iadd eX1_draw_11 ?_
  refine pX1_17 hb eX1_draw_12 fl_X1_40 ?_
  refine a_aload_n eX1_draw_15 rfl ?_
  refine gX1_17 hb eX1_draw_16 fl_X1_40 ?_
  refine a_bipush (v := 8) eX1_draw_19 (by decide) ?_
  refine a_iushr eX1_draw_21 ?_
  refine a_iret eX1_draw_22 rfl rfl (ret_i ?_)
  refine a_bipush (v := 80) eX1_addDrawn_20 (by decide) ?_
  refine a_irem eX1_addDrawn_22 (by decide) ?_
  refine a_istore_n (vs' := [some (.ref (G.1 b)), some (.int (((((um M b 17 (((M b 17) * 1103515245) + 12345)) b 17).toUInt32 >>> ((8 : Int32).toUInt32 &&& Int32.toUInt32 31)).toInt32) - ((((um M b 17 (((M b 17) * 1103515245) + 12345)) b 17).toUInt32 >>> ((8 : Int32).toUInt32 &&& Int32.toUInt32 31)).toInt32) / 6 * 6)), some (.int ((((M1 b 17).toUInt32 >>> ((8 : Int32).toUInt32 &&& Int32.toUInt32 31)).toInt32) - (((M1 b 17).toUInt32 >>> ((8 : Int32).toUInt32 &&& Int32.toUInt32 31)).toInt32) / 10 * 10)), some (.int (((((um M1 b 17 (((M1 b 17) * 1103515245) + 12345)) b 17).toUInt32 >>> ((8 : Int32).toUInt32 &&& Int32.toUInt32 31)).toInt32) - ((((um M1 b 17 (((M1 b 17) * 1103515245) + 12345)) b 17).toUInt32 >>> ((8 : Int32).toUInt32 &&& Int32.toUInt32 31)).toInt32) / 80 * 80)), none]) eX1_addDrawn_23 rfl (Nat.le_of_ble_eq_true rfl) rfl ?_
  refine a_aload_n eX1_addDrawn_24 rfl ?_
  refine qX1_82 hb rfl eX1_addDrawn_25 (Nat.le_of_ble_eq_true rfl) ?_
  refine Tr.of rfl (Nat.le_of_ble_eq_true rfl) (vs := [some (.ref (G.1 b))]) rfl ?_
  refine a_aload_n eX1_draw_0 rfl ?_
  refine a_aload_n eX1_draw_1 rfl ?_
  refine gX1_17 hb eX1_draw_2 fl_X1_40 ?_
  refine a_ldc eX1_draw_5 kc_X1_121 ?_
  refine a_imul eX1_draw_7 ?_
  refine a_sipush (v := 12345) eX1_draw_8 (by decide) ?_
  refine a_iadd eX1_draw_11 ?_
  refine pX1_17 hb eX1_draw_12 fl_X1_40 ?_
  refine a_nm (fun M2 eM2 => ?_)
  replace hv := hv M2 eM2
  refine a_aload_n eX1_draw_15 rfl ?_
  refine gX1_17 hb eX1_draw_16 fl_X1_40 ?_
  refine a_bipush (v := 8) eX1_draw_19 (by decide) ?_
  refine a_iushr eX1_draw_21 ?_
  refine a_iret eX1_draw_22 rfl rfl (ret_i ?_)
  refine a_aload_n eX1_addDrawn_28 rfl ?_
  refine qX1_86 hb rfl eX1_addDrawn_29 (Nat.le_of_ble_eq_true rfl) ?_
  refine Tr.of rfl (Nat.le_of_ble_eq_true rfl) (vs := [some (.ref (G.1 b))]) rfl ?_
  refine a_iconst (v := 1) eX1_allWays_0 (by decide) ?_
  refine a_aload_n eX1_allWays_1 rfl ?_
  refine gX1_6 hb eX1_allWays_2 fl_X1_60 ?_
  refine a_ishl eX1_allWays_5 ?_
  refine a_iconst (v := 1) eX1_allWays_6 (by decide) ?_
  refine a_isub eX1_allWays_7 ?_
  refine a_iret eX1_allWays_8 rfl rfl (ret_i ?_)
  refine a_iand eX1_addDrawn_32 ?_
  refine a_istore (vs' := [some (.ref (G.1 b)), some (.int (((((um M b 17 (((M b 17) * 1103515245) + 12345)) b 17).toUInt32 >>> ((8 : Int32).toUInt32 &&& Int32.toUInt32 31)).toInt32) - ((((um M b 17 (((M b 17) * 1103515245) + 12345)) b 17).toUInt32 >>> ((8 : Int32).toUInt32 &&& Int32.toUInt32 31)).toInt32) / 6 * 6)), some (.int ((((M1 b 17).toUInt32 >>> ((8 : Int32).toUInt32 &&& Int32.toUInt32 31)).toInt32) - (((M1 b 17).toUInt32 >>> ((8 : Int32).toUInt32 &&& Int32.toUInt32 31)).toInt32) / 10 * 10)), some (.int (((((um M1 b 17 (((M1 b 17) * 1103515245) + 12345)) b 17).toUInt32 >>> ((8 : Int32).toUInt32 &&& Int32.toUInt32 31)).toInt32) - ((((um M1 b 17 (((M1 b 17) * 1103515245) + 12345)) b 17).toUInt32 >>> ((8 : Int32).toUInt32 &&& Int32.toUInt32 31)).toInt32) / 80 * 80)), some (.int ((((M2 b 17).toUInt32 >>> ((8 : Int32).toUInt32 &&& Int32.toUInt32 31)).toInt32) &&& (((1 : Int32) <<< ((M2 b 6) &&& 31)) - 1)))]) eX1_addDrawn_33 rfl (Nat.le_of_ble_eq_true rfl) rfl ?_
  refine a_aload_n eX1_addDrawn_35 rfl ?_
  refine a_iload_n eX1_addDrawn_36 rfl ?_
  refine a_iload_n eX1_addDrawn_37 rfl ?_
  refine a_iload_n eX1_addDrawn_38 rfl ?_
  refine a_iload eX1_addDrawn_39 rfl ?_
  exact qX1_89 hb rfl eX1_addDrawn_41 (Nat.le_of_ble_eq_true rfl) (tr_I [false, false, false, false, false] rfl rfl hv)
theorem bX1_addDrawn_44 {l : Launch} {G : GT} {d : Nat} {M : Mem} {R : Option Value → Mem → Prop} {r : Int32} (hv : R none M) : At l G (d + 4) mX1_addDrawn 44 [none, none, none, none, none] [.int r] M R := by
  refine a_pop eX1_addDrawn_44 rfl ?_
  exact a_vret eX1_addDrawn_45 rfl hv
theorem tX1_addWay {l : Launch} {G : GT} {d : Nat} {M : Mem} {R : Option Value → Mem → Prop} {b : Nat} (hb : IsLd b) {v1 : Int32} {v2 : Int32} (hv : ((M b 6) < 14 → vp_in (M b 6) 14 ∧ vp_in (M b 6) 14 ∧ vp_in v1 10 ∧ vp_in v1 10 ∧ ∀ M6 : Mem, M6 = um (um (um M (b + 5) (ix (M b 6)) v1) (b + 6) (ix (M b 6)) v2) (b + 7) (ix v1) (((um (um M (b + 5) (ix (M b 6)) v1) (b + 6) (ix (M b 6)) v2) (b + 7) (ix v1)) ||| ((1 : Int32) <<< ((M b 6) &&& 31))) → vp_in v2 10 ∧ vp_in v2 10 ∧ ∀ M9 : Mem, M9 = um M6 (b + 7) (ix v2) ((M6 (b + 7) (ix v2)) ||| ((1 : Int32) <<< ((M b 6) &&& 31))) → ∀ M10 : Mem, M10 = um M9 b 10 ((M9 b 10) ||| ((1 : Int32) <<< ((M b 6) &&& 31))) → R (some (.int (M b 6))) (um M10 b 6 ((M10 b 6) + 1))) ∧ (¬ ((M b 6) < 14) → R (some (.int (-1000000003))) M)) : Tr l G (d + 4) mX1_addWay [.ref (G.1 b), .int v1, .int v2] M R := by
  refine Tr.of rfl (Nat.le_of_ble_eq_true rfl) (vs := [some (.ref (G.1 b)), some (.int v1), some (.int v2), none]) rfl ?_
  refine a_aload_n eX1_addWay_0 rfl ?_
  refine gX1_6 hb eX1_addWay_1 fl_X1_60 ?_
  refine a_bipush (v := 14) eX1_addWay_4 (by decide) ?_
  refine a_icmp_lt (tgt := 12) eX1_addWay_6 (by decide) (fun w1 => ?_) (fun w1 => ?_)
  · replace hv := hv.1 w1
    refine a_aload_n eX1_addWay_12 rfl ?_
    refine gX1_6 hb eX1_addWay_13 fl_X1_60 ?_
    refine a_istore_n (vs' := [some (.ref (G.1 b)), some (.int v1), some (.int v2), some (.int (M b 6))]) eX1_addWay_16 rfl (Nat.le_of_ble_eq_true rfl) rfl ?_
    refine a_aload_n eX1_addWay_17 rfl ?_
    refine gX1_7 hb eX1_addWay_18 fl_X1_24 ?_
    refine a_iload_n eX1_addWay_21 rfl ?_
    refine a_iload_n eX1_addWay_22 rfl ?_
    obtain ⟨h2, hv⟩ := hv
    refine a_iast eX1_addWay_23 (ld_5 hb) (ld_in hb 5 (by decide)) h2 ?_
    refine a_aload_n eX1_addWay_24 rfl ?_
    refine gX1_8 hb eX1_addWay_25 fl_X1_27 ?_
    refine a_iload_n eX1_addWay_28 rfl ?_
    refine a_iload_n eX1_addWay_29 rfl ?_
    obtain ⟨h3, hv⟩ := hv
    refine a_iast eX1_addWay_30 (ld_6 hb) (ld_in hb 6 (by decide)) h3 ?_
    refine a_aload_n eX1_addWay_31 rfl ?_
    refine gX1_9 hb eX1_addWay_32 fl_X1_30 ?_
    refine a_iload_n eX1_addWay_35 rfl ?_
    refine a_dup2 eX1_addWay_36 rfl rfl ?_
    obtain ⟨h4, hv⟩ := hv
    refine a_iald eX1_addWay_37 (ld_7 hb) (ld_in hb 7 (by decide)) h4 ?_
    refine a_iconst (v := 1) eX1_addWay_38 (by decide) ?_
    refine a_iload_n eX1_addWay_39 rfl ?_
    refine a_ishl eX1_addWay_40 ?_
    refine a_ior eX1_addWay_41 ?_
    obtain ⟨h5, hv⟩ := hv
    refine a_iast eX1_addWay_42 (ld_7 hb) (ld_in hb 7 (by decide)) h5 ?_
    refine a_nm (fun M6 eM6 => ?_)
    replace hv := hv M6 eM6
    refine a_aload_n eX1_addWay_43 rfl ?_
    refine gX1_9 hb eX1_addWay_44 fl_X1_30 ?_
    refine a_iload_n eX1_addWay_47 rfl ?_
    refine a_dup2 eX1_addWay_48 rfl rfl ?_
    obtain ⟨h7, hv⟩ := hv
    refine a_iald eX1_addWay_49 (ld_7 hb) (ld_in hb 7 (by decide)) h7 ?_
    refine a_iconst (v := 1) eX1_addWay_50 (by decide) ?_
    refine a_iload_n eX1_addWay_51 rfl ?_
    refine a_ishl eX1_addWay_52 ?_
    refine a_ior eX1_addWay_53 ?_
    obtain ⟨h8, hv⟩ := hv
    refine a_iast eX1_addWay_54 (ld_7 hb) (ld_in hb 7 (by decide)) h8 ?_
    refine a_nm (fun M9 eM9 => ?_)
    replace hv := hv M9 eM9
    refine a_aload_n eX1_addWay_55 rfl ?_
    refine a_dup eX1_addWay_56 rfl ?_
    refine gX1_10 hb eX1_addWay_57 fl_X1_63 ?_
    refine a_iconst (v := 1) eX1_addWay_60 (by decide) ?_
    refine a_iload_n eX1_addWay_61 rfl ?_
    refine a_ishl eX1_addWay_62 ?_
    refine a_ior eX1_addWay_63 ?_
    refine pX1_10 hb eX1_addWay_64 fl_X1_63 ?_
    refine a_nm (fun M10 eM10 => ?_)
    replace hv := hv M10 eM10
    refine a_aload_n eX1_addWay_67 rfl ?_
    refine a_dup eX1_addWay_68 rfl ?_
    refine gX1_6 hb eX1_addWay_69 fl_X1_60 ?_
    refine a_iconst (v := 1) eX1_addWay_72 (by decide) ?_
    refine a_iadd eX1_addWay_73 ?_
    refine pX1_6 hb eX1_addWay_74 fl_X1_60 ?_
    refine a_iload_n eX1_addWay_77 rfl ?_
    exact a_iret eX1_addWay_78 rfl rfl hv
  · replace hv := hv.2 w1
    refine a_ldc eX1_addWay_9 kc_X1_81 ?_
    exact a_iret eX1_addWay_11 rfl rfl hv
theorem tX1_peopleIn {l : Launch} {G : GT} {d : Nat} {M : Mem} {R : Option Value → Mem → Prop} {b : Nat} (hb : IsLd b) {v1 : Int32} (hv : At l G (d + 4) mX1_peopleIn 4 [some (.ref (G.1 b)), some (.int v1), some (.int 0), some (.int 0)] [] M R) : Tr l G (d + 4) mX1_peopleIn [.ref (G.1 b), .int v1] M R := by
  refine Tr.of rfl (Nat.le_of_ble_eq_true rfl) (vs := [some (.ref (G.1 b)), some (.int v1), none, none]) rfl ?_
  refine a_iconst (v := 0) eX1_peopleIn_0 (by decide) ?_
  refine a_istore_n (vs' := [some (.ref (G.1 b)), some (.int v1), some (.int 0), none]) eX1_peopleIn_1 rfl (Nat.le_of_ble_eq_true rfl) rfl ?_
  refine a_iconst (v := 0) eX1_peopleIn_2 (by decide) ?_
  refine a_istore_n (vs' := [some (.ref (G.1 b)), some (.int v1), some (.int 0), some (.int 0)]) eX1_peopleIn_3 rfl (Nat.le_of_ble_eq_true rfl) rfl ?_
  exact a_weak [true, true, true, true] rfl rfl hv
theorem bX1_peopleIn_4 {l : Launch} {G : GT} {d : Nat} {M : Mem} {R : Option Value → Mem → Prop} {b : Nat} (hb : IsLd b) {v1 : Int32} {v2 : Int32} {v3 : Int32} (hv : ((M b 1) ≤ v3 → R (some (.int v2)) M) ∧ (¬ ((M b 1) ≤ v3) → vp_in v3 8 ∧ ((M (b + 2) (ix v3)) = v1 → At l G (d + 4) mX1_peopleIn 4 [some (.ref (G.1 b)), some (.int v1), some (.int (v2 ||| ((1 : Int32) <<< (v3 &&& 31)))), some (.int (v3 + 1))] [] M R) ∧ (¬ ((M (b + 2) (ix v3)) = v1) → At l G (d + 4) mX1_peopleIn 4 [some (.ref (G.1 b)), some (.int v1), some (.int v2), some (.int (v3 + 1))] [] M R))) : At l G (d + 4) mX1_peopleIn 4 [some (.ref (G.1 b)), some (.int v1), some (.int v2), some (.int v3)] [] M R := by
  refine a_iload_n eX1_peopleIn_4 rfl ?_
  refine a_aload_n eX1_peopleIn_5 rfl ?_
  refine gX1_1 hb eX1_peopleIn_6 fl_X1_51 ?_
  refine a_icmp_ge (tgt := 34) eX1_peopleIn_9 (by decide) (fun w1 => ?_) (fun w1 => ?_)
  · replace hv := hv.1 w1
    refine a_iload_n eX1_peopleIn_34 rfl ?_
    exact a_iret eX1_peopleIn_35 rfl rfl hv
  · replace hv := hv.2 w1
    refine a_aload_n eX1_peopleIn_12 rfl ?_
    refine gX1_3 hb eX1_peopleIn_13 fl_X1_15 ?_
    refine a_iload_n eX1_peopleIn_16 rfl ?_
    obtain ⟨h2, hv⟩ := hv
    refine a_iald eX1_peopleIn_17 (ld_8 hb 2 (by decide)) (ld_in hb 2 (by decide)) h2 ?_
    refine a_iload_n eX1_peopleIn_18 rfl ?_
    refine a_icmp_ne (tgt := 28) eX1_peopleIn_19 (by decide) (fun w3 => ?_) (fun w3 => ?_)
    · replace hv := hv.2 w3
      refine a_iinc (v := 1) (vs' := [some (.ref (G.1 b)), some (.int v1), some (.int v2), some (.int (v3 + 1))]) eX1_peopleIn_28 rfl rfl (by decide) rfl ?_
      refine a_goto (tgt := 4) eX1_peopleIn_31 (by decide) ?_
      exact a_weak [true, true, true, true] rfl rfl hv
    · replace hv := hv.1 w3
      refine a_iload_n eX1_peopleIn_22 rfl ?_
      refine a_iconst (v := 1) eX1_peopleIn_23 (by decide) ?_
      refine a_iload_n eX1_peopleIn_24 rfl ?_
      refine a_ishl eX1_peopleIn_25 ?_
      refine a_ior eX1_peopleIn_26 ?_
      refine a_istore_n (vs' := [some (.ref (G.1 b)), some (.int v1), some (.int (v2 ||| ((1 : Int32) <<< (v3 &&& 31)))), some (.int v3)]) eX1_peopleIn_27 rfl (Nat.le_of_ble_eq_true rfl) rfl ?_
      refine a_iinc (v := 1) (vs' := [some (.ref (G.1 b)), some (.int v1), some (.int (v2 ||| ((1 : Int32) <<< (v3 &&& 31)))), some (.int (v3 + 1))]) eX1_peopleIn_28 rfl rfl (by decide) rfl ?_
      refine a_goto (tgt := 4) eX1_peopleIn_31 (by decide) ?_
      exact a_weak [true, true, true, true] rfl rfl hv
theorem tX1_bearersOf {l : Launch} {G : GT} {d : Nat} {M : Mem} {R : Option Value → Mem → Prop} {b : Nat} (hb : IsLd b) {v1 : Int32} (hv : At l G (d + 4) mX1_bearersOf 4 [some (.ref (G.1 b)), some (.int v1), some (.int 0), some (.int 0)] [] M R) : Tr l G (d + 4) mX1_bearersOf [.ref (G.1 b), .int v1] M R := by
  refine Tr.of rfl (Nat.le_of_ble_eq_true rfl) (vs := [some (.ref (G.1 b)), some (.int v1), none, none]) rfl ?_
  refine a_iconst (v := 0) eX1_bearersOf_0 (by decide) ?_
  refine a_istore_n (vs' := [some (.ref (G.1 b)), some (.int v1), some (.int 0), none]) eX1_bearersOf_1 rfl (Nat.le_of_ble_eq_true rfl) rfl ?_
  refine a_iconst (v := 0) eX1_bearersOf_2 (by decide) ?_
  refine a_istore_n (vs' := [some (.ref (G.1 b)), some (.int v1), some (.int 0), some (.int 0)]) eX1_bearersOf_3 rfl (Nat.le_of_ble_eq_true rfl) rfl ?_
  exact a_weak [true, true, true, true] rfl rfl hv
theorem bX1_bearersOf_4 {l : Launch} {G : GT} {d : Nat} {M : Mem} {R : Option Value → Mem → Prop} {b : Nat} (hb : IsLd b) {v1 : Int32} {v2 : Int32} {v3 : Int32} (hv : ((M b 1) ≤ v3 → R (some (.int v2)) M) ∧ (¬ ((M b 1) ≤ v3) → vp_in v3 8 ∧ ((((M (b + 4) (ix v3)) >>> (v1 &&& 31)) &&& 1) = 0 → At l G (d + 4) mX1_bearersOf 4 [some (.ref (G.1 b)), some (.int v1), some (.int v2), some (.int (v3 + 1))] [] M R) ∧ (¬ ((((M (b + 4) (ix v3)) >>> (v1 &&& 31)) &&& 1) = 0) → At l G (d + 4) mX1_bearersOf 4 [some (.ref (G.1 b)), some (.int v1), some (.int (v2 ||| ((1 : Int32) <<< (v3 &&& 31)))), some (.int (v3 + 1))] [] M R))) : At l G (d + 4) mX1_bearersOf 4 [some (.ref (G.1 b)), some (.int v1), some (.int v2), some (.int v3)] [] M R := by
  refine a_iload_n eX1_bearersOf_4 rfl ?_
  refine a_aload_n eX1_bearersOf_5 rfl ?_
  refine gX1_1 hb eX1_bearersOf_6 fl_X1_51 ?_
  refine a_icmp_ge (tgt := 37) eX1_bearersOf_9 (by decide) (fun w1 => ?_) (fun w1 => ?_)
  · replace hv := hv.1 w1
    refine a_iload_n eX1_bearersOf_37 rfl ?_
    exact a_iret eX1_bearersOf_38 rfl rfl hv
  · replace hv := hv.2 w1
    refine a_aload_n eX1_bearersOf_12 rfl ?_
    refine gX1_5 hb eX1_bearersOf_13 fl_X1_21 ?_
    refine a_iload_n eX1_bearersOf_16 rfl ?_
    obtain ⟨h2, hv⟩ := hv
    refine a_iald eX1_bearersOf_17 (ld_8 hb 4 (by decide)) (ld_in hb 4 (by decide)) h2 ?_
    refine a_iload_n eX1_bearersOf_18 rfl ?_
    refine qX1_93 rfl eX1_bearersOf_19 (Nat.le_of_ble_eq_true rfl) ?_
    refine Tr.of rfl (Nat.le_of_ble_eq_true rfl) (vs := [some (.int (M (b + 4) (ix v3))), some (.int v1)]) rfl ?_
    refine a_iload_n eX7_has_0 rfl ?_
    refine a_iload_n eX7_has_1 rfl ?_
    refine a_ishr eX7_has_2 ?_
    refine a_iconst (v := 1) eX7_has_3 (by decide) ?_
    refine a_iand eX7_has_4 ?_
    refine a_if_eq (tgt := 12) eX7_has_5 (by decide) (fun w3 => ?_) (fun w3 => ?_)
    · replace hv := hv.1 w3
      refine a_iconst (v := 0) eX7_has_12 (by decide) ?_
      refine a_iret eX7_has_13 rfl rfl (ret_i ?_)
      refine a_if_eq (tgt := 31) eX1_bearersOf_22 (by decide) (fun _ => ?_) (fun h => absurd h (by decide))
      refine a_iinc (v := 1) (vs' := [some (.ref (G.1 b)), some (.int v1), some (.int v2), some (.int (v3 + 1))]) eX1_bearersOf_31 rfl rfl (by decide) rfl ?_
      refine a_goto (tgt := 4) eX1_bearersOf_34 (by decide) ?_
      exact a_weak [true, true, true, true] rfl rfl hv
    · replace hv := hv.2 w3
      refine a_iconst (v := 1) eX7_has_8 (by decide) ?_
      refine a_goto (tgt := 13) eX7_has_9 (by decide) ?_
      refine a_iret eX7_has_13 rfl rfl (ret_i ?_)
      refine a_if_eq (tgt := 31) eX1_bearersOf_22 (by decide) (fun h => absurd h (by decide)) (fun _ => ?_)
      refine a_iload_n eX1_bearersOf_25 rfl ?_
      refine a_iconst (v := 1) eX1_bearersOf_26 (by decide) ?_
      refine a_iload_n eX1_bearersOf_27 rfl ?_
      refine a_ishl eX1_bearersOf_28 ?_
      refine a_ior eX1_bearersOf_29 ?_
      refine a_istore_n (vs' := [some (.ref (G.1 b)), some (.int v1), some (.int (v2 ||| ((1 : Int32) <<< (v3 &&& 31)))), some (.int v3)]) eX1_bearersOf_30 rfl (Nat.le_of_ble_eq_true rfl) rfl ?_
      refine a_iinc (v := 1) (vs' := [some (.ref (G.1 b)), some (.int v1), some (.int (v2 ||| ((1 : Int32) <<< (v3 &&& 31)))), some (.int (v3 + 1))]) eX1_bearersOf_31 rfl rfl (by decide) rfl ?_
      refine a_goto (tgt := 4) eX1_bearersOf_34 (by decide) ?_
      exact a_weak [true, true, true, true] rfl rfl hv
theorem tX1_skinsOf {l : Launch} {G : GT} {d : Nat} {M : Mem} {R : Option Value → Mem → Prop} {b : Nat} (hb : IsLd b) {v1 : Int32} (hv : At l G (d + 4) mX1_skinsOf 4 [some (.ref (G.1 b)), some (.int v1), some (.int 0), some (.int 0)] [] M R) : Tr l G (d + 4) mX1_skinsOf [.ref (G.1 b), .int v1] M R := by
  refine Tr.of rfl (Nat.le_of_ble_eq_true rfl) (vs := [some (.ref (G.1 b)), some (.int v1), none, none]) rfl ?_
  refine a_iconst (v := 0) eX1_skinsOf_0 (by decide) ?_
  refine a_istore_n (vs' := [some (.ref (G.1 b)), some (.int v1), some (.int 0), none]) eX1_skinsOf_1 rfl (Nat.le_of_ble_eq_true rfl) rfl ?_
  refine a_iconst (v := 0) eX1_skinsOf_2 (by decide) ?_
  refine a_istore_n (vs' := [some (.ref (G.1 b)), some (.int v1), some (.int 0), some (.int 0)]) eX1_skinsOf_3 rfl (Nat.le_of_ble_eq_true rfl) rfl ?_
  exact a_weak [true, true, true, true] rfl rfl hv
theorem bX1_skinsOf_4 {l : Launch} {G : GT} {d : Nat} {M : Mem} {R : Option Value → Mem → Prop} {b : Nat} (hb : IsLd b) {v1 : Int32} {v2 : Int32} {v3 : Int32} (hv : ((M b 1) ≤ v3 → R (some (.int v2)) M) ∧ (¬ ((M b 1) ≤ v3) → (((v1 >>> (v3 &&& 31)) &&& 1) = 0 → At l G (d + 4) mX1_skinsOf 4 [some (.ref (G.1 b)), some (.int v1), some (.int v2), some (.int (v3 + 1))] [] M R) ∧ (¬ (((v1 >>> (v3 &&& 31)) &&& 1) = 0) → vp_in v3 8 ∧ At l G (d + 4) mX1_skinsOf 4 [some (.ref (G.1 b)), some (.int v1), some (.int (v2 ||| (M (b + 4) (ix v3)))), some (.int (v3 + 1))] [] M R))) : At l G (d + 4) mX1_skinsOf 4 [some (.ref (G.1 b)), some (.int v1), some (.int v2), some (.int v3)] [] M R := by
  refine a_iload_n eX1_skinsOf_4 rfl ?_
  refine a_aload_n eX1_skinsOf_5 rfl ?_
  refine gX1_1 hb eX1_skinsOf_6 fl_X1_51 ?_
  refine a_icmp_ge (tgt := 35) eX1_skinsOf_9 (by decide) (fun w1 => ?_) (fun w1 => ?_)
  · replace hv := hv.1 w1
    refine a_iload_n eX1_skinsOf_35 rfl ?_
    exact a_iret eX1_skinsOf_36 rfl rfl hv
  · replace hv := hv.2 w1
    refine a_iload_n eX1_skinsOf_12 rfl ?_
    refine a_iload_n eX1_skinsOf_13 rfl ?_
    refine qX1_93 rfl eX1_skinsOf_14 (Nat.le_of_ble_eq_true rfl) ?_
    refine Tr.of rfl (Nat.le_of_ble_eq_true rfl) (vs := [some (.int v1), some (.int v3)]) rfl ?_
    refine a_iload_n eX7_has_0 rfl ?_
    refine a_iload_n eX7_has_1 rfl ?_
    refine a_ishr eX7_has_2 ?_
    refine a_iconst (v := 1) eX7_has_3 (by decide) ?_
    refine a_iand eX7_has_4 ?_
    refine a_if_eq (tgt := 12) eX7_has_5 (by decide) (fun w2 => ?_) (fun w2 => ?_)
    · replace hv := hv.1 w2
      refine a_iconst (v := 0) eX7_has_12 (by decide) ?_
      refine a_iret eX7_has_13 rfl rfl (ret_i ?_)
      refine a_if_eq (tgt := 29) eX1_skinsOf_17 (by decide) (fun _ => ?_) (fun h => absurd h (by decide))
      refine a_iinc (v := 1) (vs' := [some (.ref (G.1 b)), some (.int v1), some (.int v2), some (.int (v3 + 1))]) eX1_skinsOf_29 rfl rfl (by decide) rfl ?_
      refine a_goto (tgt := 4) eX1_skinsOf_32 (by decide) ?_
      exact a_weak [true, true, true, true] rfl rfl hv
    · replace hv := hv.2 w2
      refine a_iconst (v := 1) eX7_has_8 (by decide) ?_
      refine a_goto (tgt := 13) eX7_has_9 (by decide) ?_
      refine a_iret eX7_has_13 rfl rfl (ret_i ?_)
      refine a_if_eq (tgt := 29) eX1_skinsOf_17 (by decide) (fun h => absurd h (by decide)) (fun _ => ?_)
      refine a_iload_n eX1_skinsOf_20 rfl ?_
      refine a_aload_n eX1_skinsOf_21 rfl ?_
      refine gX1_5 hb eX1_skinsOf_22 fl_X1_21 ?_
      refine a_iload_n eX1_skinsOf_25 rfl ?_
      obtain ⟨h3, hv⟩ := hv
      refine a_iald eX1_skinsOf_26 (ld_8 hb 4 (by decide)) (ld_in hb 4 (by decide)) h3 ?_
      refine a_ior eX1_skinsOf_27 ?_
      refine a_istore_n (vs' := [some (.ref (G.1 b)), some (.int v1), some (.int (v2 ||| (M (b + 4) (ix v3)))), some (.int v3)]) eX1_skinsOf_28 rfl (Nat.le_of_ble_eq_true rfl) rfl ?_
      refine a_iinc (v := 1) (vs' := [some (.ref (G.1 b)), some (.int v1), some (.int (v2 ||| (M (b + 4) (ix v3)))), some (.int (v3 + 1))]) eX1_skinsOf_29 rfl rfl (by decide) rfl ?_
      refine a_goto (tgt := 4) eX1_skinsOf_32 (by decide) ?_
      exact a_weak [true, true, true, true] rfl rfl hv
theorem tX1_waysBorne {l : Launch} {G : GT} {d : Nat} {M : Mem} {R : Option Value → Mem → Prop} {b : Nat} (hb : IsLd b) (hv : Tr l G (d + 3) mX1_skinsOf [.ref (G.1 b), .int (((1 : Int32) <<< ((M b 1) &&& 31)) - 1)] M (kI fun q M' => At l G (d + 4) mX1_waysBorne 8 [none] [.int q] M' R)) : Tr l G (d + 4) mX1_waysBorne [.ref (G.1 b)] M R := by
  refine Tr.of rfl (Nat.le_of_ble_eq_true rfl) (vs := [some (.ref (G.1 b))]) rfl ?_
  refine a_aload_n eX1_waysBorne_0 rfl ?_
  refine a_aload_n eX1_waysBorne_1 rfl ?_
  refine qX1_97 hb rfl eX1_waysBorne_2 (Nat.le_of_ble_eq_true rfl) ?_
  refine Tr.of rfl (Nat.le_of_ble_eq_true rfl) (vs := [some (.ref (G.1 b))]) rfl ?_
  refine a_iconst (v := 1) eX1_everyone_0 (by decide) ?_
  refine a_aload_n eX1_everyone_1 rfl ?_
  refine gX1_1 hb eX1_everyone_2 fl_X1_51 ?_
  refine a_ishl eX1_everyone_5 ?_
  refine a_iconst (v := 1) eX1_everyone_6 (by decide) ?_
  refine a_isub eX1_everyone_7 ?_
  refine a_iret eX1_everyone_8 rfl rfl (ret_i ?_)
  exact qX1_100 hb rfl eX1_waysBorne_5 (Nat.le_of_ble_eq_true rfl) (tr_I [false] rfl rfl hv)
theorem bX1_waysBorne_8 {l : Launch} {G : GT} {d : Nat} {M : Mem} {R : Option Value → Mem → Prop} {r : Int32} (hv : Tr l G (d + 3) mJ6_bitCount_0f7a4 [.int r] M (kI fun q M' => At l G (d + 4) mX1_waysBorne 11 [none] [.int q] M' R)) : At l G (d + 4) mX1_waysBorne 8 [none] [.int r] M R := by
  exact qX1_104 rfl eX1_waysBorne_8 (Nat.le_of_ble_eq_true rfl) (tr_I [false] rfl rfl hv)
theorem bX1_waysBorne_11 {l : Launch} {G : GT} {d : Nat} {M : Mem} {R : Option Value → Mem → Prop} {r : Int32} (hv : R (some (.int r)) M) : At l G (d + 4) mX1_waysBorne 11 [none] [.int r] M R := by
  exact a_iret eX1_waysBorne_11 rfl rfl hv
theorem tX1_waysMissed {l : Launch} {G : GT} {d : Nat} {M : Mem} {R : Option Value → Mem → Prop} {b : Nat} (hb : IsLd b) {v1 : Int32} (hv : vp_in v1 8 ∧ Tr l G (d + 3) mX1_skinsOf [.ref (G.1 b), .int ((((1 : Int32) <<< ((M b 1) &&& 31)) - 1) &&& (((1 : Int32) <<< (v1 &&& 31)) ^^^ (-1)))] M (kI fun q M' => At l G (d + 4) mX1_waysMissed 20 [none, none] [.int q, .int (M (b + 4) (ix v1))] M' R)) : Tr l G (d + 4) mX1_waysMissed [.ref (G.1 b), .int v1] M R := by
  refine Tr.of rfl (Nat.le_of_ble_eq_true rfl) (vs := [some (.ref (G.1 b)), some (.int v1)]) rfl ?_
  refine a_aload_n eX1_waysMissed_0 rfl ?_
  refine gX1_5 hb eX1_waysMissed_1 fl_X1_21 ?_
  refine a_iload_n eX1_waysMissed_4 rfl ?_
  obtain ⟨h1, hv⟩ := hv
  refine a_iald eX1_waysMissed_5 (ld_8 hb 4 (by decide)) (ld_in hb 4 (by decide)) h1 ?_
  refine a_aload_n eX1_waysMissed_6 rfl ?_
  refine a_aload_n eX1_waysMissed_7 rfl ?_
  refine qX1_97 hb rfl eX1_waysMissed_8 (Nat.le_of_ble_eq_true rfl) ?_
  refine Tr.of rfl (Nat.le_of_ble_eq_true rfl) (vs := [some (.ref (G.1 b))]) rfl ?_
  refine a_iconst (v := 1) eX1_everyone_0 (by decide) ?_
  refine a_aload_n eX1_everyone_1 rfl ?_
  refine gX1_1 hb eX1_everyone_2 fl_X1_51 ?_
  refine a_ishl eX1_everyone_5 ?_
  refine a_iconst (v := 1) eX1_everyone_6 (by decide) ?_
  refine a_isub eX1_everyone_7 ?_
  refine a_iret eX1_everyone_8 rfl rfl (ret_i ?_)
  refine a_iconst (v := 1) eX1_waysMissed_11 (by decide) ?_
  refine a_iload_n eX1_waysMissed_12 rfl ?_
  refine a_ishl eX1_waysMissed_13 ?_
  refine a_iconst (v := (-1)) eX1_waysMissed_14 (by decide) ?_
  refine a_ixor eX1_waysMissed_15 ?_
  refine a_iand eX1_waysMissed_16 ?_
  exact qX1_100 hb rfl eX1_waysMissed_17 (Nat.le_of_ble_eq_true rfl) (tr_I [false, false] rfl rfl hv)
theorem bX1_waysMissed_20 {l : Launch} {G : GT} {d : Nat} {M : Mem} {R : Option Value → Mem → Prop} {r : Int32} {t1 : Int32} (hv : Tr l G (d + 3) mJ6_bitCount_0f7a4 [.int (t1 &&& (r ^^^ (-1)))] M (kI fun q M' => At l G (d + 4) mX1_waysMissed 26 [none, none] [.int q] M' R)) : At l G (d + 4) mX1_waysMissed 20 [none, none] [.int r, .int t1] M R := by
  refine a_iconst (v := (-1)) eX1_waysMissed_20 (by decide) ?_
  refine a_ixor eX1_waysMissed_21 ?_
  refine a_iand eX1_waysMissed_22 ?_
  exact qX1_104 rfl eX1_waysMissed_23 (Nat.le_of_ble_eq_true rfl) (tr_I [false, false] rfl rfl hv)
theorem bX1_waysMissed_26 {l : Launch} {G : GT} {d : Nat} {M : Mem} {R : Option Value → Mem → Prop} {r : Int32} (hv : R (some (.int r)) M) : At l G (d + 4) mX1_waysMissed 26 [none, none] [.int r] M R := by
  exact a_iret eX1_waysMissed_26 rfl rfl hv
theorem tX1_fewestBearers {l : Launch} {G : GT} {d : Nat} {M : Mem} {R : Option Value → Mem → Prop} {b : Nat} (hb : IsLd b) (hv : Tr l G (d + 3) mX1_skinsOf [.ref (G.1 b), .int (((1 : Int32) <<< ((M b 1) &&& 31)) - 1)] M (kI fun q M' => At l G (d + 4) mX1_fewestBearers 10 [some (.ref (G.1 b)), some (.int (((1 : Int32) <<< ((M b 1) &&& 31)) - 1)), none, none] [.int q] M' R)) : Tr l G (d + 4) mX1_fewestBearers [.ref (G.1 b)] M R := by
  refine Tr.of rfl (Nat.le_of_ble_eq_true rfl) (vs := [some (.ref (G.1 b)), none, none, none]) rfl ?_
  refine a_aload_n eX1_fewestBearers_0 rfl ?_
  refine qX1_97 hb rfl eX1_fewestBearers_1 (Nat.le_of_ble_eq_true rfl) ?_
  refine Tr.of rfl (Nat.le_of_ble_eq_true rfl) (vs := [some (.ref (G.1 b))]) rfl ?_
  refine a_iconst (v := 1) eX1_everyone_0 (by decide) ?_
  refine a_aload_n eX1_everyone_1 rfl ?_
  refine gX1_1 hb eX1_everyone_2 fl_X1_51 ?_
  refine a_ishl eX1_everyone_5 ?_
  refine a_iconst (v := 1) eX1_everyone_6 (by decide) ?_
  refine a_isub eX1_everyone_7 ?_
  refine a_iret eX1_everyone_8 rfl rfl (ret_i ?_)
  refine a_istore_n (vs' := [some (.ref (G.1 b)), some (.int (((1 : Int32) <<< ((M b 1) &&& 31)) - 1)), none, none]) eX1_fewestBearers_4 rfl (Nat.le_of_ble_eq_true rfl) rfl ?_
  refine a_aload_n eX1_fewestBearers_5 rfl ?_
  refine a_iload_n eX1_fewestBearers_6 rfl ?_
  exact qX1_100 hb rfl eX1_fewestBearers_7 (Nat.le_of_ble_eq_true rfl) (tr_I [true, true, false, false] rfl rfl hv)
theorem bX1_fewestBearers_10 {l : Launch} {G : GT} {d : Nat} {M : Mem} {R : Option Value → Mem → Prop} {b : Nat} (hb : IsLd b) {v1 : Int32} {r : Int32} (hv : At l G (d + 4) mX1_fewestBearers 13 [some (.ref (G.1 b)), some (.int v1), some (.int r), some (.int 0)] [] M R) : At l G (d + 4) mX1_fewestBearers 10 [some (.ref (G.1 b)), some (.int v1), none, none] [.int r] M R := by
  refine a_istore_n (vs' := [some (.ref (G.1 b)), some (.int v1), some (.int r), none]) eX1_fewestBearers_10 rfl (Nat.le_of_ble_eq_true rfl) rfl ?_
  refine a_iconst (v := 0) eX1_fewestBearers_11 (by decide) ?_
  refine a_istore_n (vs' := [some (.ref (G.1 b)), some (.int v1), some (.int r), some (.int 0)]) eX1_fewestBearers_12 rfl (Nat.le_of_ble_eq_true rfl) rfl ?_
  exact a_weak [true, true, true, true] rfl rfl hv
theorem bX1_fewestBearers_13 {l : Launch} {G : GT} {d : Nat} {M : Mem} {R : Option Value → Mem → Prop} {b : Nat} (hb : IsLd b) {v1 : Int32} {v2 : Int32} {v3 : Int32} (hv : (((1 : Int32) <<< ((M b 1) &&& 31)) ≤ v3 → R (some (.int v1)) M) ∧ (¬ (((1 : Int32) <<< ((M b 1) &&& 31)) ≤ v3) → Tr l G (d + 3) mJ6_bitCount_0f7a4 [.int v3] M (kI fun q M' => At l G (d + 4) mX1_fewestBearers 27 [some (.ref (G.1 b)), some (.int v1), some (.int v2), some (.int v3)] [.int q] M' R))) : At l G (d + 4) mX1_fewestBearers 13 [some (.ref (G.1 b)), some (.int v1), some (.int v2), some (.int v3)] [] M R := by
  refine a_iload_n eX1_fewestBearers_13 rfl ?_
  refine a_iconst (v := 1) eX1_fewestBearers_14 (by decide) ?_
  refine a_aload_n eX1_fewestBearers_15 rfl ?_
  refine gX1_1 hb eX1_fewestBearers_16 fl_X1_51 ?_
  refine a_ishl eX1_fewestBearers_19 ?_
  refine a_icmp_ge (tgt := 51) eX1_fewestBearers_20 (by decide) (fun w1 => ?_) (fun w1 => ?_)
  · replace hv := hv.1 w1
    refine a_iload_n eX1_fewestBearers_51 rfl ?_
    exact a_iret eX1_fewestBearers_52 rfl rfl hv
  · replace hv := hv.2 w1
    refine a_iload_n eX1_fewestBearers_23 rfl ?_
    exact qX1_104 rfl eX1_fewestBearers_24 (Nat.le_of_ble_eq_true rfl) (tr_I [true, true, true, true] rfl rfl hv)
theorem bX1_fewestBearers_27 {l : Launch} {G : GT} {d : Nat} {M : Mem} {R : Option Value → Mem → Prop} {b : Nat} (hb : IsLd b) {v1 : Int32} {v2 : Int32} {v3 : Int32} {r : Int32} (hv : Tr l G (d + 3) mJ6_bitCount_0f7a4 [.int v1] M (kI fun q M' => At l G (d + 4) mX1_fewestBearers 31 [some (.ref (G.1 b)), some (.int v1), some (.int v2), some (.int v3)] [.int q, .int r] M' R)) : At l G (d + 4) mX1_fewestBearers 27 [some (.ref (G.1 b)), some (.int v1), some (.int v2), some (.int v3)] [.int r] M R := by
  refine a_iload_n eX1_fewestBearers_27 rfl ?_
  exact qX1_104 rfl eX1_fewestBearers_28 (Nat.le_of_ble_eq_true rfl) (tr_I [true, true, true, true] rfl rfl hv)
theorem bX1_fewestBearers_31 {l : Launch} {G : GT} {d : Nat} {M : Mem} {R : Option Value → Mem → Prop} {b : Nat} (hb : IsLd b) {v1 : Int32} {v2 : Int32} {v3 : Int32} {r : Int32} {t1 : Int32} (hv : (r ≤ t1 → At l G (d + 4) mX1_fewestBearers 13 [some (.ref (G.1 b)), some (.int v1), some (.int v2), some (.int (v3 + 1))] [] M R) ∧ (¬ (r ≤ t1) → Tr l G (d + 3) mX1_skinsOf [.ref (G.1 b), .int v3] M (kI fun q M' => At l G (d + 4) mX1_fewestBearers 39 [some (.ref (G.1 b)), some (.int v1), some (.int v2), some (.int v3)] [.int q] M' R))) : At l G (d + 4) mX1_fewestBearers 31 [some (.ref (G.1 b)), some (.int v1), some (.int v2), some (.int v3)] [.int r, .int t1] M R := by
  refine a_icmp_ge (tgt := 45) eX1_fewestBearers_31 (by decide) (fun w1 => ?_) (fun w1 => ?_)
  · replace hv := hv.1 w1
    refine a_iinc (v := 1) (vs' := [some (.ref (G.1 b)), some (.int v1), some (.int v2), some (.int (v3 + 1))]) eX1_fewestBearers_45 rfl rfl (by decide) rfl ?_
    refine a_goto (tgt := 13) eX1_fewestBearers_48 (by decide) ?_
    exact a_weak [true, true, true, true] rfl rfl hv
  · replace hv := hv.2 w1
    refine a_aload_n eX1_fewestBearers_34 rfl ?_
    refine a_iload_n eX1_fewestBearers_35 rfl ?_
    exact qX1_100 hb rfl eX1_fewestBearers_36 (Nat.le_of_ble_eq_true rfl) (tr_I [true, true, true, true] rfl rfl hv)
theorem bX1_fewestBearers_39 {l : Launch} {G : GT} {d : Nat} {M : Mem} {R : Option Value → Mem → Prop} {b : Nat} (hb : IsLd b) {v1 : Int32} {v2 : Int32} {v3 : Int32} {r : Int32} (hv : (r = v2 → At l G (d + 4) mX1_fewestBearers 13 [some (.ref (G.1 b)), some (.int v3), some (.int v2), some (.int (v3 + 1))] [] M R) ∧ (¬ (r = v2) → At l G (d + 4) mX1_fewestBearers 13 [some (.ref (G.1 b)), some (.int v1), some (.int v2), some (.int (v3 + 1))] [] M R)) : At l G (d + 4) mX1_fewestBearers 39 [some (.ref (G.1 b)), some (.int v1), some (.int v2), some (.int v3)] [.int r] M R := by
  refine a_iload_n eX1_fewestBearers_39 rfl ?_
  refine a_icmp_ne (tgt := 45) eX1_fewestBearers_40 (by decide) (fun w1 => ?_) (fun w1 => ?_)
  · replace hv := hv.2 w1
    refine a_iinc (v := 1) (vs' := [some (.ref (G.1 b)), some (.int v1), some (.int v2), some (.int (v3 + 1))]) eX1_fewestBearers_45 rfl rfl (by decide) rfl ?_
    refine a_goto (tgt := 13) eX1_fewestBearers_48 (by decide) ?_
    exact a_weak [true, true, true, true] rfl rfl hv
  · replace hv := hv.1 w1
    refine a_iload_n eX1_fewestBearers_43 rfl ?_
    refine a_istore_n (vs' := [some (.ref (G.1 b)), some (.int v3), some (.int v2), some (.int v3)]) eX1_fewestBearers_44 rfl (Nat.le_of_ble_eq_true rfl) rfl ?_
    refine a_iinc (v := 1) (vs' := [some (.ref (G.1 b)), some (.int v3), some (.int v2), some (.int (v3 + 1))]) eX1_fewestBearers_45 rfl rfl (by decide) rfl ?_
    refine a_goto (tgt := 13) eX1_fewestBearers_48 (by decide) ?_
    exact a_weak [true, true, true, true] rfl rfl hv
theorem tX1_readBy {l : Launch} {G : GT} {d : Nat} {M : Mem} {R : Option Value → Mem → Prop} {b : Nat} (hb : IsLd b) {v1 : Int32} {v2 : Int32} (hv : vp_in v1 8 ∧ vp_in v1 8 ∧ ((M (b + 1) (ix v1)) = 2 → vp_in v2 10 ∧ R (some (.int ((M (b + 4) (ix v1)) &&& (M (b + 7) (ix v2))))) M) ∧ ((M (b + 1) (ix v1)) = 3 → R (some (.int ((M (b + 4) (ix v1)) &&& (-4682)))) M) ∧ ((M (b + 1) (ix v1)) = 4 → vp_in v2 10 ∧ R (some (.int ((M (b + 4) (ix v1)) &&& ((M (b + 7) (ix v2)) ||| 10922)))) M) ∧ ((M (b + 1) (ix v1)) = 5 → vp_in v2 10 ∧ R (some (.int ((M (b + 7) (ix v2)) &&& 10922))) M) ∧ (¬ (M (b + 1) (ix v1)) = 2 → ¬ (M (b + 1) (ix v1)) = 3 → ¬ (M (b + 1) (ix v1)) = 4 → ¬ (M (b + 1) (ix v1)) = 5 → R (some (.int (M (b + 4) (ix v1)))) M)) : Tr l G (d + 4) mX1_readBy [.ref (G.1 b), .int v1, .int v2] M R := by
  refine Tr.of rfl (Nat.le_of_ble_eq_true rfl) (vs := [some (.ref (G.1 b)), some (.int v1), some (.int v2), none]) rfl ?_
  refine a_aload_n eX1_readBy_0 rfl ?_
  refine gX1_5 hb eX1_readBy_1 fl_X1_21 ?_
  refine a_iload_n eX1_readBy_4 rfl ?_
  obtain ⟨h1, hv⟩ := hv
  refine a_iald eX1_readBy_5 (ld_8 hb 4 (by decide)) (ld_in hb 4 (by decide)) h1 ?_
  refine a_istore_n (vs' := [some (.ref (G.1 b)), some (.int v1), some (.int v2), some (.int (M (b + 4) (ix v1)))]) eX1_readBy_6 rfl (Nat.le_of_ble_eq_true rfl) rfl ?_
  refine a_aload_n eX1_readBy_7 rfl ?_
  refine gX1_2 hb eX1_readBy_8 fl_X1_9 ?_
  refine a_iload_n eX1_readBy_11 rfl ?_
  obtain ⟨h2, hv⟩ := hv
  refine a_iald eX1_readBy_12 (ld_8 hb 1 (by decide)) (ld_in hb 1 (by decide)) h2 ?_
  by_cases w4 : (M (b + 1) (ix v1)) = 2
  · refine a_tswIn 2 (tgt := 50) eX1_readBy_13 w4 (by decide) (by decide) rfl (by decide) ?_
    replace hv := hv.1 w4
    refine a_iload_n eX1_readBy_50 rfl ?_
    refine a_aload_n eX1_readBy_51 rfl ?_
    refine gX1_9 hb eX1_readBy_52 fl_X1_30 ?_
    refine a_iload_n eX1_readBy_55 rfl ?_
    obtain ⟨h3, hv⟩ := hv
    refine a_iald eX1_readBy_56 (ld_7 hb) (ld_in hb 7 (by decide)) h3 ?_
    refine a_iand eX1_readBy_57 ?_
    exact a_iret eX1_readBy_58 rfl rfl hv
  by_cases w5 : (M (b + 1) (ix v1)) = 3
  · refine a_tswIn 3 (tgt := 44) eX1_readBy_13 w5 (by decide) (by decide) rfl (by decide) ?_
    replace hv := hv.2.1 w5
    refine a_iload_n eX1_readBy_44 rfl ?_
    refine a_sipush (v := (-4682)) eX1_readBy_45 (by decide) ?_
    refine a_iand eX1_readBy_48 ?_
    exact a_iret eX1_readBy_49 rfl rfl hv
  by_cases w7 : (M (b + 1) (ix v1)) = 4
  · refine a_tswIn 4 (tgt := 59) eX1_readBy_13 w7 (by decide) (by decide) rfl (by decide) ?_
    replace hv := hv.2.2.1 w7
    refine a_iload_n eX1_readBy_59 rfl ?_
    refine a_aload_n eX1_readBy_60 rfl ?_
    refine gX1_9 hb eX1_readBy_61 fl_X1_30 ?_
    refine a_iload_n eX1_readBy_64 rfl ?_
    obtain ⟨h6, hv⟩ := hv
    refine a_iald eX1_readBy_65 (ld_7 hb) (ld_in hb 7 (by decide)) h6 ?_
    refine a_sipush (v := 10922) eX1_readBy_66 (by decide) ?_
    refine a_ior eX1_readBy_69 ?_
    refine a_iand eX1_readBy_70 ?_
    exact a_iret eX1_readBy_71 rfl rfl hv
  by_cases w9 : (M (b + 1) (ix v1)) = 5
  · refine a_tswIn 5 (tgt := 72) eX1_readBy_13 w9 (by decide) (by decide) rfl (by decide) ?_
    replace hv := hv.2.2.2.1 w9
    refine a_aload_n eX1_readBy_72 rfl ?_
    refine gX1_9 hb eX1_readBy_73 fl_X1_30 ?_
    refine a_iload_n eX1_readBy_76 rfl ?_
    obtain ⟨h8, hv⟩ := hv
    refine a_iald eX1_readBy_77 (ld_7 hb) (ld_in hb 7 (by decide)) h8 ?_
    refine a_sipush (v := 10922) eX1_readBy_78 (by decide) ?_
    refine a_iand eX1_readBy_81 ?_
    exact a_iret eX1_readBy_82 rfl rfl hv
  refine a_tswOut (tgt := 83) eX1_readBy_13 (by have zw4 := lv_neT (a := 2) w4 (by decide); have zw5 := lv_neT (a := 3) w5 (by decide); have zw7 := lv_neT (a := 4) w7 (by decide); have zw9 := lv_neT (a := 5) w9 (by decide); omega) (by decide) ?_
  replace hv := hv.2.2.2.2 w4 w5 w7 w9
  refine a_iload_n eX1_readBy_83 rfl ?_
  exact a_iret eX1_readBy_84 rfl rfl hv
theorem tX1_readByThoseIn {l : Launch} {G : GT} {d : Nat} {M : Mem} {R : Option Value → Mem → Prop} {b : Nat} (hb : IsLd b) {v1 : Int32} (hv : At l G (d + 4) mX1_readByThoseIn 4 [some (.ref (G.1 b)), some (.int v1), some (.int 0), some (.int 0)] [] M R) : Tr l G (d + 4) mX1_readByThoseIn [.ref (G.1 b), .int v1] M R := by
  refine Tr.of rfl (Nat.le_of_ble_eq_true rfl) (vs := [some (.ref (G.1 b)), some (.int v1), none, none]) rfl ?_
  refine a_iconst (v := 0) eX1_readByThoseIn_0 (by decide) ?_
  refine a_istore_n (vs' := [some (.ref (G.1 b)), some (.int v1), some (.int 0), none]) eX1_readByThoseIn_1 rfl (Nat.le_of_ble_eq_true rfl) rfl ?_
  refine a_iconst (v := 0) eX1_readByThoseIn_2 (by decide) ?_
  refine a_istore_n (vs' := [some (.ref (G.1 b)), some (.int v1), some (.int 0), some (.int 0)]) eX1_readByThoseIn_3 rfl (Nat.le_of_ble_eq_true rfl) rfl ?_
  exact a_weak [true, true, true, true] rfl rfl hv
theorem bX1_readByThoseIn_4 {l : Launch} {G : GT} {d : Nat} {M : Mem} {R : Option Value → Mem → Prop} {b : Nat} (hb : IsLd b) {v1 : Int32} {v2 : Int32} {v3 : Int32} (hv : ((M b 1) ≤ v3 → R (some (.int v2)) M) ∧ (¬ ((M b 1) ≤ v3) → vp_in v3 8 ∧ ((M (b + 2) (ix v3)) = v1 → Tr l G (d + 3) mX1_readBy [.ref (G.1 b), .int v3, .int v1] M (kI fun q M' => At l G (d + 4) mX1_readByThoseIn 29 [some (.ref (G.1 b)), some (.int v1), none, some (.int v3)] [.int q, .int v2] M' R)) ∧ (¬ ((M (b + 2) (ix v3)) = v1) → At l G (d + 4) mX1_readByThoseIn 4 [some (.ref (G.1 b)), some (.int v1), some (.int v2), some (.int (v3 + 1))] [] M R))) : At l G (d + 4) mX1_readByThoseIn 4 [some (.ref (G.1 b)), some (.int v1), some (.int v2), some (.int v3)] [] M R := by
  refine a_iload_n eX1_readByThoseIn_4 rfl ?_
  refine a_aload_n eX1_readByThoseIn_5 rfl ?_
  refine gX1_1 hb eX1_readByThoseIn_6 fl_X1_51 ?_
  refine a_icmp_ge (tgt := 37) eX1_readByThoseIn_9 (by decide) (fun w1 => ?_) (fun w1 => ?_)
  · replace hv := hv.1 w1
    refine a_iload_n eX1_readByThoseIn_37 rfl ?_
    exact a_iret eX1_readByThoseIn_38 rfl rfl hv
  · replace hv := hv.2 w1
    refine a_aload_n eX1_readByThoseIn_12 rfl ?_
    refine gX1_3 hb eX1_readByThoseIn_13 fl_X1_15 ?_
    refine a_iload_n eX1_readByThoseIn_16 rfl ?_
    obtain ⟨h2, hv⟩ := hv
    refine a_iald eX1_readByThoseIn_17 (ld_8 hb 2 (by decide)) (ld_in hb 2 (by decide)) h2 ?_
    refine a_iload_n eX1_readByThoseIn_18 rfl ?_
    refine a_icmp_ne (tgt := 31) eX1_readByThoseIn_19 (by decide) (fun w3 => ?_) (fun w3 => ?_)
    · replace hv := hv.2 w3
      refine a_iinc (v := 1) (vs' := [some (.ref (G.1 b)), some (.int v1), some (.int v2), some (.int (v3 + 1))]) eX1_readByThoseIn_31 rfl rfl (by decide) rfl ?_
      refine a_goto (tgt := 4) eX1_readByThoseIn_34 (by decide) ?_
      exact a_weak [true, true, true, true] rfl rfl hv
    · replace hv := hv.1 w3
      refine a_iload_n eX1_readByThoseIn_22 rfl ?_
      refine a_aload_n eX1_readByThoseIn_23 rfl ?_
      refine a_iload_n eX1_readByThoseIn_24 rfl ?_
      refine a_iload_n eX1_readByThoseIn_25 rfl ?_
      exact qX1_109 hb rfl eX1_readByThoseIn_26 (Nat.le_of_ble_eq_true rfl) (tr_I [true, true, false, true] rfl rfl hv)
theorem bX1_readByThoseIn_29 {l : Launch} {G : GT} {d : Nat} {M : Mem} {R : Option Value → Mem → Prop} {b : Nat} (hb : IsLd b) {v1 : Int32} {v3 : Int32} {r : Int32} {t1 : Int32} (hv : At l G (d + 4) mX1_readByThoseIn 4 [some (.ref (G.1 b)), some (.int v1), some (.int (t1 ||| r)), some (.int (v3 + 1))] [] M R) : At l G (d + 4) mX1_readByThoseIn 29 [some (.ref (G.1 b)), some (.int v1), none, some (.int v3)] [.int r, .int t1] M R := by
  refine a_ior eX1_readByThoseIn_29 ?_
  refine a_istore_n (vs' := [some (.ref (G.1 b)), some (.int v1), some (.int (t1 ||| r)), some (.int v3)]) eX1_readByThoseIn_30 rfl (Nat.le_of_ble_eq_true rfl) rfl ?_
  refine a_iinc (v := 1) (vs' := [some (.ref (G.1 b)), some (.int v1), some (.int (t1 ||| r)), some (.int (v3 + 1))]) eX1_readByThoseIn_31 rfl rfl (by decide) rfl ?_
  refine a_goto (tgt := 4) eX1_readByThoseIn_34 (by decide) ?_
  exact a_weak [true, true, true, true] rfl rfl hv
theorem tX1_urgeOf {l : Launch} {G : GT} {d : Nat} {M : Mem} {R : Option Value → Mem → Prop} {b : Nat} (hb : IsLd b) {v1 : Int32} (hv : ((M (b + 8) 0) = (-1000000005) → R (some (.int (M b 11))) M) ∧ (¬ ((M (b + 8) 0) = (-1000000005)) → vp_in v1 8 ∧ vp_in v1 8 ∧ Tr l G (d + 3) mX2_valueOf [.ref (G.1 1), .int (M (b + 8) 0), .int (M b 11), .int (M (b + 3) (ix v1)), .int (M (b + 2) (ix v1))] M (kI fun q M' => At l G (d + 4) mX1_urgeOf 42 [none, none, none] [.int q] M' R))) : Tr l G (d + 4) mX1_urgeOf [.ref (G.1 b), .int v1] M R := by
  refine Tr.of rfl (Nat.le_of_ble_eq_true rfl) (vs := [some (.ref (G.1 b)), some (.int v1), none]) rfl ?_
  refine a_aload_n eX1_urgeOf_0 rfl ?_
  refine gX1_19 hb eX1_urgeOf_1 fl_X1_44 ?_
  refine a_iconst (v := 0) eX1_urgeOf_4 (by decide) ?_
  refine a_ialdc 0 eX1_urgeOf_5 (ld_8c hb) (ld_in hb 8 (by decide)) (by decide) (by decide) ?_
  refine a_istore_n (vs' := [some (.ref (G.1 b)), some (.int v1), some (.int (M (b + 8) 0))]) eX1_urgeOf_6 rfl (Nat.le_of_ble_eq_true rfl) rfl ?_
  refine a_iload_n eX1_urgeOf_7 rfl ?_
  refine a_ldc eX1_urgeOf_8 kc_X1_43 ?_
  refine a_icmp_ne (tgt := 18) eX1_urgeOf_10 (by decide) (fun w1 => ?_) (fun w1 => ?_)
  · replace hv := hv.2 w1
    refine a_aload_n eX1_urgeOf_18 rfl ?_
    refine gX1_0 hb eX1_urgeOf_19 fl_X1_47 ?_
    refine a_iload_n eX1_urgeOf_22 rfl ?_
    refine a_aload_n eX1_urgeOf_23 rfl ?_
    refine gX1_11 hb eX1_urgeOf_24 fl_X1_33 ?_
    refine a_aload_n eX1_urgeOf_27 rfl ?_
    refine gX1_4 hb eX1_urgeOf_28 fl_X1_18 ?_
    refine a_iload_n eX1_urgeOf_31 rfl ?_
    obtain ⟨h2, hv⟩ := hv
    refine a_iald eX1_urgeOf_32 (ld_8 hb 3 (by decide)) (ld_in hb 3 (by decide)) h2 ?_
    refine a_aload_n eX1_urgeOf_33 rfl ?_
    refine gX1_3 hb eX1_urgeOf_34 fl_X1_15 ?_
    refine a_iload_n eX1_urgeOf_37 rfl ?_
    obtain ⟨h3, hv⟩ := hv
    refine a_iald eX1_urgeOf_38 (ld_8 hb 2 (by decide)) (ld_in hb 2 (by decide)) h3 ?_
    exact qX1_113 rfl eX1_urgeOf_39 (Nat.le_of_ble_eq_true rfl) (tr_I [false, false, false] rfl rfl hv)
  · replace hv := hv.1 w1
    refine a_aload_n eX1_urgeOf_13 rfl ?_
    refine gX1_11 hb eX1_urgeOf_14 fl_X1_33 ?_
    exact a_iret eX1_urgeOf_17 rfl rfl hv
theorem bX1_urgeOf_42 {l : Launch} {G : GT} {d : Nat} {M : Mem} {R : Option Value → Mem → Prop} {r : Int32} (hv : R (some (.int (if 0 < (if 100 < r then 100 else r) then (if 100 < r then 100 else r) else 0))) M) : At l G (d + 4) mX1_urgeOf 42 [none, none, none] [.int r] M R := by
  refine a_bipush (v := 100) eX1_urgeOf_42 (by decide) ?_
  refine qX1_118 rfl eX1_urgeOf_44 (Nat.le_of_ble_eq_true rfl) ?_
  refine Tr.of rfl (Nat.le_of_ble_eq_true rfl) (vs := [some (.int r), some (.int 100)]) rfl ?_
  refine a_iconst (v := 0) eX7_within_0 (by decide) ?_
  refine a_iload_n eX7_within_1 rfl ?_
  refine a_iload_n eX7_within_2 rfl ?_
  refine a_mmin eX7_within_3 ml_X7_151 stMin inMa cwMin (by omega) (Nat.le_of_ble_eq_true rfl) ?_
  refine a_mmax eX7_within_6 ml_X7_324 stMax inMa cwMax (by omega) (Nat.le_of_ble_eq_true rfl) ?_
  refine a_iret eX7_within_9 rfl rfl (ret_i ?_)
  exact a_iret eX1_urgeOf_47 rfl rfl hv
theorem tX1_passDays {l : Launch} {G : GT} {d : Nat} {M : Mem} {R : Option Value → Mem → Prop} {b : Nat} (hb : IsLd b) {v1 : Int32} (hv : At l G (d + 4) mX1_passDays 2 [some (.ref (G.1 b)), some (.int v1), some (.int 0), none] [] M R) : Tr l G (d + 4) mX1_passDays [.ref (G.1 b), .int v1] M R := by
  refine Tr.of rfl (Nat.le_of_ble_eq_true rfl) (vs := [some (.ref (G.1 b)), some (.int v1), none, none]) rfl ?_
  refine a_iconst (v := 0) eX1_passDays_0 (by decide) ?_
  refine a_istore_n (vs' := [some (.ref (G.1 b)), some (.int v1), some (.int 0), none]) eX1_passDays_1 rfl (Nat.le_of_ble_eq_true rfl) rfl ?_
  exact a_weak [true, true, true, false] rfl rfl hv
theorem bX1_passDays_2 {l : Launch} {G : GT} {d : Nat} {M : Mem} {R : Option Value → Mem → Prop} {b : Nat} (hb : IsLd b) {v1 : Int32} {v2 : Int32} (hv : (v1 ≤ v2 → R none M) ∧ (¬ (v1 ≤ v2) → At l G (d + 4) mX1_passDays 9 [some (.ref (G.1 b)), some (.int v1), some (.int v2), some (.int 0)] [] M R)) : At l G (d + 4) mX1_passDays 2 [some (.ref (G.1 b)), some (.int v1), some (.int v2), none] [] M R := by
  refine a_iload_n eX1_passDays_2 rfl ?_
  refine a_iload_n eX1_passDays_3 rfl ?_
  refine a_icmp_ge (tgt := 69) eX1_passDays_4 (by decide) (fun w1 => ?_) (fun w1 => ?_)
  · replace hv := hv.1 w1
    exact a_vret eX1_passDays_69 rfl hv
  · replace hv := hv.2 w1
    refine a_iconst (v := 0) eX1_passDays_7 (by decide) ?_
    refine a_istore_n (vs' := [some (.ref (G.1 b)), some (.int v1), some (.int v2), some (.int 0)]) eX1_passDays_8 rfl (Nat.le_of_ble_eq_true rfl) rfl ?_
    exact a_weak [true, true, true, true] rfl rfl hv
theorem bX1_passDays_9 {l : Launch} {G : GT} {d : Nat} {M : Mem} {R : Option Value → Mem → Prop} {b : Nat} (hb : IsLd b) {v1 : Int32} {v2 : Int32} {v3 : Int32} (hv : ((M b 1) ≤ v3 → At l G (d + 4) mX1_passDays 30 [some (.ref (G.1 b)), some (.int v1), some (.int v2), some (.int 0)] [] M R) ∧ (¬ ((M b 1) ≤ v3) → Tr l G (d + 3) mX1_wander [.ref (G.1 b), .int v3] M (kV fun M' => At l G (d + 4) mX1_passDays 22 [some (.ref (G.1 b)), some (.int v1), some (.int v2), some (.int v3)] [] M' R))) : At l G (d + 4) mX1_passDays 9 [some (.ref (G.1 b)), some (.int v1), some (.int v2), some (.int v3)] [] M R := by
  refine a_iload_n eX1_passDays_9 rfl ?_
  refine a_aload_n eX1_passDays_10 rfl ?_
  refine gX1_1 hb eX1_passDays_11 fl_X1_51 ?_
  refine a_icmp_ge (tgt := 28) eX1_passDays_14 (by decide) (fun w1 => ?_) (fun w1 => ?_)
  · replace hv := hv.1 w1
    refine a_iconst (v := 0) eX1_passDays_28 (by decide) ?_
    refine a_istore_n (vs' := [some (.ref (G.1 b)), some (.int v1), some (.int v2), some (.int 0)]) eX1_passDays_29 rfl (Nat.le_of_ble_eq_true rfl) rfl ?_
    exact a_weak [true, true, true, true] rfl rfl hv
  · replace hv := hv.2 w1
    refine a_aload_n eX1_passDays_17 rfl ?_
    refine a_iload_n eX1_passDays_18 rfl ?_
    exact qX1_122 hb rfl eX1_passDays_19 (Nat.le_of_ble_eq_true rfl) (tr_V [true, true, true, true] rfl rfl hv)
theorem bX1_passDays_22 {l : Launch} {G : GT} {d : Nat} {M : Mem} {R : Option Value → Mem → Prop} {b : Nat} (hb : IsLd b) {v1 : Int32} {v2 : Int32} {v3 : Int32} (hv : At l G (d + 4) mX1_passDays 9 [some (.ref (G.1 b)), some (.int v1), some (.int v2), some (.int (v3 + 1))] [] M R) : At l G (d + 4) mX1_passDays 22 [some (.ref (G.1 b)), some (.int v1), some (.int v2), some (.int v3)] [] M R := by
  refine a_iinc (v := 1) (vs' := [some (.ref (G.1 b)), some (.int v1), some (.int v2), some (.int (v3 + 1))]) eX1_passDays_22 rfl rfl (by decide) rfl ?_
  refine a_goto (tgt := 9) eX1_passDays_25 (by decide) ?_
  exact a_weak [true, true, true, true] rfl rfl hv
theorem bX1_passDays_30 {l : Launch} {G : GT} {d : Nat} {M : Mem} {R : Option Value → Mem → Prop} {b : Nat} (hb : IsLd b) {v1 : Int32} {v2 : Int32} {v3 : Int32} (hv : ((M b 1) ≤ v3 → Tr l G (d + 3) mX1_slip [.ref (G.1 b)] M (kV fun M' => At l G (d + 4) mX1_passDays 53 [some (.ref (G.1 b)), some (.int v1), some (.int v2), none] [] M' R)) ∧ (¬ ((M b 1) ≤ v3) → Tr l G (d + 3) mX1_grow [.ref (G.1 b), .int v3] M (kV fun M' => At l G (d + 4) mX1_passDays 43 [some (.ref (G.1 b)), some (.int v1), some (.int v2), some (.int v3)] [] M' R))) : At l G (d + 4) mX1_passDays 30 [some (.ref (G.1 b)), some (.int v1), some (.int v2), some (.int v3)] [] M R := by
  refine a_iload_n eX1_passDays_30 rfl ?_
  refine a_aload_n eX1_passDays_31 rfl ?_
  refine gX1_1 hb eX1_passDays_32 fl_X1_51 ?_
  refine a_icmp_ge (tgt := 49) eX1_passDays_35 (by decide) (fun w1 => ?_) (fun w1 => ?_)
  · replace hv := hv.1 w1
    refine a_aload_n eX1_passDays_49 rfl ?_
    exact qX1_129 hb rfl eX1_passDays_50 (Nat.le_of_ble_eq_true rfl) (tr_V [true, true, true, false] rfl rfl hv)
  · replace hv := hv.2 w1
    refine a_aload_n eX1_passDays_38 rfl ?_
    refine a_iload_n eX1_passDays_39 rfl ?_
    exact qX1_126 hb rfl eX1_passDays_40 (Nat.le_of_ble_eq_true rfl) (tr_V [true, true, true, true] rfl rfl hv)
theorem bX1_passDays_43 {l : Launch} {G : GT} {d : Nat} {M : Mem} {R : Option Value → Mem → Prop} {b : Nat} (hb : IsLd b) {v1 : Int32} {v2 : Int32} {v3 : Int32} (hv : At l G (d + 4) mX1_passDays 30 [some (.ref (G.1 b)), some (.int v1), some (.int v2), some (.int (v3 + 1))] [] M R) : At l G (d + 4) mX1_passDays 43 [some (.ref (G.1 b)), some (.int v1), some (.int v2), some (.int v3)] [] M R := by
  refine a_iinc (v := 1) (vs' := [some (.ref (G.1 b)), some (.int v1), some (.int v2), some (.int (v3 + 1))]) eX1_passDays_43 rfl rfl (by decide) rfl ?_
  refine a_goto (tgt := 30) eX1_passDays_46 (by decide) ?_
  exact a_weak [true, true, true, true] rfl rfl hv
theorem bX1_passDays_53 {l : Launch} {G : GT} {d : Nat} {M : Mem} {R : Option Value → Mem → Prop} {b : Nat} (hb : IsLd b) {v1 : Int32} {v2 : Int32} (hv : At l G (d + 4) mX1_passDays 2 [some (.ref (G.1 b)), some (.int v1), some (.int (v2 + 1)), none] [] (um M b 16 ((M b 16) + 1)) R) : At l G (d + 4) mX1_passDays 53 [some (.ref (G.1 b)), some (.int v1), some (.int v2), none] [] M R := by
  refine a_aload_n eX1_passDays_53 rfl ?_
  refine a_dup eX1_passDays_54 rfl ?_
  refine gX1_16 hb eX1_passDays_55 fl_X1_75 ?_
  refine a_iconst (v := 1) eX1_passDays_58 (by decide) ?_
  refine a_iadd eX1_passDays_59 ?_
  refine pX1_16 hb eX1_passDays_60 fl_X1_75 ?_
  refine a_iinc (v := 1) (vs' := [some (.ref (G.1 b)), some (.int v1), some (.int (v2 + 1)), none]) eX1_passDays_63 rfl rfl (by decide) rfl ?_
  refine a_goto (tgt := 2) eX1_passDays_66 (by decide) ?_
  exact a_weak [true, true, true, false] rfl rfl hv
theorem tX1_wander {l : Launch} {G : GT} {d : Nat} {M : Mem} {R : Option Value → Mem → Prop} {b : Nat} (hb : IsLd b) {v1 : Int32} (hv : Tr l G (d + 3) mX1_urgeOf [.ref (G.1 b), .int v1] (um M b 17 (((M b 17) * 1103515245) + 12345)) (kI fun q M' => At l G (d + 4) mX1_wander 14 [some (.ref (G.1 b)), some (.int v1), none, none, none] [.int q, .int (((((um M b 17 (((M b 17) * 1103515245) + 12345)) b 17).toUInt32 >>> ((8 : Int32).toUInt32 &&& Int32.toUInt32 31)).toInt32) - ((((um M b 17 (((M b 17) * 1103515245) + 12345)) b 17).toUInt32 >>> ((8 : Int32).toUInt32 &&& Int32.toUInt32 31)).toInt32) / 100 * 100)] M' R)) : Tr l G (d + 4) mX1_wander [.ref (G.1 b), .int v1] M R := by
  refine Tr.of rfl (Nat.le_of_ble_eq_true rfl) (vs := [some (.ref (G.1 b)), some (.int v1), none, none, none]) rfl ?_
  refine a_aload_n eX1_wander_0 rfl ?_
  refine qX1_82 hb rfl eX1_wander_1 (Nat.le_of_ble_eq_true rfl) ?_
  refine Tr.of rfl (Nat.le_of_ble_eq_true rfl) (vs := [some (.ref (G.1 b))]) rfl ?_
  refine a_aload_n eX1_draw_0 rfl ?_
  refine a_aload_n eX1_draw_1 rfl ?_
  refine gX1_17 hb eX1_draw_2 fl_X1_40 ?_
  refine a_ldc eX1_draw_5 kc_X1_121 ?_
  refine a_imul eX1_draw_7 ?_
  refine a_sipush (v := 12345) eX1_draw_8 (by decide) ?_
  refine a_iadd eX1_draw_11 ?_
  refine pX1_17 hb eX1_draw_12 fl_X1_40 ?_
  refine a_aload_n eX1_draw_15 rfl ?_
  refine gX1_17 hb eX1_draw_16 fl_X1_40 ?_
  refine a_bipush (v := 8) eX1_draw_19 (by decide) ?_
  refine a_iushr eX1_draw_21 ?_
  refine a_iret eX1_draw_22 rfl rfl (ret_i ?_)
  refine a_bipush (v := 100) eX1_wander_4 (by decide) ?_
  refine a_irem eX1_wander_6 (by decide) ?_
  refine a_istore_n (vs' := [some (.ref (G.1 b)), some (.int v1), some (.int (((((um M b 17 (((M b 17) * 1103515245) + 12345)) b 17).toUInt32 >>> ((8 : Int32).toUInt32 &&& Int32.toUInt32 31)).toInt32) - ((((um M b 17 (((M b 17) * 1103515245) + 12345)) b 17).toUInt32 >>> ((8 : Int32).toUInt32 &&& Int32.toUInt32 31)).toInt32) / 100 * 100)), none, none]) eX1_wander_7 rfl (Nat.le_of_ble_eq_true rfl) rfl ?_
  refine a_iload_n eX1_wander_8 rfl ?_
  refine a_aload_n eX1_wander_9 rfl ?_
  refine a_iload_n eX1_wander_10 rfl ?_
  exact qX1_132 hb rfl eX1_wander_11 (Nat.le_of_ble_eq_true rfl) (tr_I [true, true, false, false, false] rfl rfl hv)
theorem bX1_wander_14 {l : Launch} {G : GT} {d : Nat} {M : Mem} {R : Option Value → Mem → Prop} {b : Nat} (hb : IsLd b) {v1 : Int32} {r : Int32} {t1 : Int32} (hv : (r ≤ t1 → R none M) ∧ (¬ (r ≤ t1) → ((M b 6) = 0 → R none M) ∧ (¬ ((M b 6) = 0) → ¬ ((um M b 17 (((M b 17) * 1103515245) + 12345)) b 6) = 0 ∧ vp_in v1 8 ∧ vp_in ((um M b 17 (((M b 17) * 1103515245) + 12345)) (b + 2) (ix v1)) 10 ∧ Tr l G (d + 3) mX1_readByThoseIn [.ref (G.1 b), .int ((um M b 17 (((M b 17) * 1103515245) + 12345)) (b + 2) (ix v1))] (um M b 17 (((M b 17) * 1103515245) + 12345)) (kI fun q M' => At l G (d + 4) mX1_wander 61 [some (.ref (G.1 b)), some (.int v1), none, some (.int (((((um M b 17 (((M b 17) * 1103515245) + 12345)) b 17).toUInt32 >>> ((8 : Int32).toUInt32 &&& Int32.toUInt32 31)).toInt32) - ((((um M b 17 (((M b 17) * 1103515245) + 12345)) b 17).toUInt32 >>> ((8 : Int32).toUInt32 &&& Int32.toUInt32 31)).toInt32) / ((um M b 17 (((M b 17) * 1103515245) + 12345)) b 6) * ((um M b 17 (((M b 17) * 1103515245) + 12345)) b 6))), some (.int ((um M b 17 (((M b 17) * 1103515245) + 12345)) (b + 2) (ix v1)))] [.int q, .int (((um M b 17 (((M b 17) * 1103515245) + 12345)) (b + 7) (ix ((um M b 17 (((M b 17) * 1103515245) + 12345)) (b + 2) (ix v1)))) &&& ((um M b 17 (((M b 17) * 1103515245) + 12345)) b 10))] M' R)))) : At l G (d + 4) mX1_wander 14 [some (.ref (G.1 b)), some (.int v1), none, none, none] [.int r, .int t1] M R := by
  refine a_icmp_ge (tgt := 24) eX1_wander_14 (by decide) (fun w1 => ?_) (fun w1 => ?_)
  · replace hv := hv.1 w1
    exact a_vret eX1_wander_24 rfl hv
  · replace hv := hv.2 w1
    refine a_aload_n eX1_wander_17 rfl ?_
    refine gX1_6 hb eX1_wander_18 fl_X1_60 ?_
    refine a_if_ne (tgt := 25) eX1_wander_21 (by decide) (fun w2 => ?_) (fun w2 => ?_)
    · replace hv := hv.2 w2
      refine a_aload_n eX1_wander_25 rfl ?_
      refine qX1_82 hb rfl eX1_wander_26 (Nat.le_of_ble_eq_true rfl) ?_
      refine Tr.of rfl (Nat.le_of_ble_eq_true rfl) (vs := [some (.ref (G.1 b))]) rfl ?_
      refine a_aload_n eX1_draw_0 rfl ?_
      refine a_aload_n eX1_draw_1 rfl ?_
      refine gX1_17 hb eX1_draw_2 fl_X1_40 ?_
      refine a_ldc eX1_draw_5 kc_X1_121 ?_
      refine a_imul eX1_draw_7 ?_
      refine a_sipush (v := 12345) eX1_draw_8 (by decide) ?_
      refine a_iadd eX1_draw_11 ?_
      refine pX1_17 hb eX1_draw_12 fl_X1_40 ?_
      refine a_aload_n eX1_draw_15 rfl ?_
      refine gX1_17 hb eX1_draw_16 fl_X1_40 ?_
      refine a_bipush (v := 8) eX1_draw_19 (by decide) ?_
      refine a_iushr eX1_draw_21 ?_
      refine a_iret eX1_draw_22 rfl rfl (ret_i ?_)
      refine a_aload_n eX1_wander_29 rfl ?_
      refine gX1_6 hb eX1_wander_30 fl_X1_60 ?_
      obtain ⟨h3, hv⟩ := hv
      refine a_irem eX1_wander_33 h3 ?_
      refine a_istore_n (vs' := [some (.ref (G.1 b)), some (.int v1), none, some (.int (((((um M b 17 (((M b 17) * 1103515245) + 12345)) b 17).toUInt32 >>> ((8 : Int32).toUInt32 &&& Int32.toUInt32 31)).toInt32) - ((((um M b 17 (((M b 17) * 1103515245) + 12345)) b 17).toUInt32 >>> ((8 : Int32).toUInt32 &&& Int32.toUInt32 31)).toInt32) / ((um M b 17 (((M b 17) * 1103515245) + 12345)) b 6) * ((um M b 17 (((M b 17) * 1103515245) + 12345)) b 6))), none]) eX1_wander_34 rfl (Nat.le_of_ble_eq_true rfl) rfl ?_
      refine a_aload_n eX1_wander_35 rfl ?_
      refine gX1_3 hb eX1_wander_36 fl_X1_15 ?_
      refine a_iload_n eX1_wander_39 rfl ?_
      obtain ⟨h4, hv⟩ := hv
      refine a_iald eX1_wander_40 (ld_8 hb 2 (by decide)) (ld_in hb 2 (by decide)) h4 ?_
      refine a_istore (vs' := [some (.ref (G.1 b)), some (.int v1), none, some (.int (((((um M b 17 (((M b 17) * 1103515245) + 12345)) b 17).toUInt32 >>> ((8 : Int32).toUInt32 &&& Int32.toUInt32 31)).toInt32) - ((((um M b 17 (((M b 17) * 1103515245) + 12345)) b 17).toUInt32 >>> ((8 : Int32).toUInt32 &&& Int32.toUInt32 31)).toInt32) / ((um M b 17 (((M b 17) * 1103515245) + 12345)) b 6) * ((um M b 17 (((M b 17) * 1103515245) + 12345)) b 6))), some (.int ((um M b 17 (((M b 17) * 1103515245) + 12345)) (b + 2) (ix v1)))]) eX1_wander_41 rfl (Nat.le_of_ble_eq_true rfl) rfl ?_
      refine a_aload_n eX1_wander_43 rfl ?_
      refine gX1_9 hb eX1_wander_44 fl_X1_30 ?_
      refine a_iload eX1_wander_47 rfl ?_
      obtain ⟨h5, hv⟩ := hv
      refine a_iald eX1_wander_49 (ld_7 hb) (ld_in hb 7 (by decide)) h5 ?_
      refine a_aload_n eX1_wander_50 rfl ?_
      refine gX1_10 hb eX1_wander_51 fl_X1_63 ?_
      refine a_iand eX1_wander_54 ?_
      refine a_aload_n eX1_wander_55 rfl ?_
      refine a_iload eX1_wander_56 rfl ?_
      exact qX1_135 hb rfl eX1_wander_58 (Nat.le_of_ble_eq_true rfl) (tr_I [true, true, false, true, true] rfl rfl hv)
    · replace hv := hv.1 w2
      exact a_vret eX1_wander_24 rfl hv
theorem bX1_wander_61 {l : Launch} {G : GT} {d : Nat} {M : Mem} {R : Option Value → Mem → Prop} {b : Nat} (hb : IsLd b) {v1 : Int32} {v3 : Int32} {v4 : Int32} {r : Int32} {t1 : Int32} (hv : ((((t1 &&& r) >>> (v3 &&& 31)) &&& 1) = 0 → R none M) ∧ (¬ ((((t1 &&& r) >>> (v3 &&& 31)) &&& 1) = 0) → vp_in v3 14 ∧ ((M (b + 5) (ix v3)) = v4 → vp_in v3 14 ∧ vp_in v1 8 ∧ ∀ M10 : Mem, M10 = um (um M (b + 2) (ix v1) (M (b + 6) (ix v3))) b 13 (((um M (b + 2) (ix v1) (M (b + 6) (ix v3))) b 13) + 1) → vp_in v1 8 ∧ Tr l G (d + 3) mX0_learns [.int (M10 (b + 1) (ix v1))] M10 (kI fun q M' => At l G (d + 4) mX1_wander 102 [some (.ref (G.1 b)), some (.int v1), none, some (.int v3), none] [.int q] M' R)) ∧ (¬ ((M (b + 5) (ix v3)) = v4) → vp_in v3 14 ∧ vp_in v1 8 ∧ ∀ M6 : Mem, M6 = um (um M (b + 2) (ix v1) (M (b + 5) (ix v3))) b 13 (((um M (b + 2) (ix v1) (M (b + 5) (ix v3))) b 13) + 1) → vp_in v1 8 ∧ Tr l G (d + 3) mX0_learns [.int (M6 (b + 1) (ix v1))] M6 (kI fun q M' => At l G (d + 4) mX1_wander 102 [some (.ref (G.1 b)), some (.int v1), none, some (.int v3), none] [.int q] M' R)))) : At l G (d + 4) mX1_wander 61 [some (.ref (G.1 b)), some (.int v1), none, some (.int v3), some (.int v4)] [.int r, .int t1] M R := by
  refine a_iand eX1_wander_61 ?_
  refine a_iload_n eX1_wander_62 rfl ?_
  refine qX1_93 rfl eX1_wander_63 (Nat.le_of_ble_eq_true rfl) ?_
  refine Tr.of rfl (Nat.le_of_ble_eq_true rfl) (vs := [some (.int (t1 &&& r)), some (.int v3)]) rfl ?_
  refine a_iload_n eX7_has_0 rfl ?_
  refine a_iload_n eX7_has_1 rfl ?_
  refine a_ishr eX7_has_2 ?_
  refine a_iconst (v := 1) eX7_has_3 (by decide) ?_
  refine a_iand eX7_has_4 ?_
  refine a_if_eq (tgt := 12) eX7_has_5 (by decide) (fun w1 => ?_) (fun w1 => ?_)
  · replace hv := hv.1 w1
    refine a_iconst (v := 0) eX7_has_12 (by decide) ?_
    refine a_iret eX7_has_13 rfl rfl (ret_i ?_)
    refine a_if_ne (tgt := 70) eX1_wander_66 (by decide) (fun h => absurd h (by decide)) (fun _ => ?_)
    exact a_vret eX1_wander_69 rfl hv
  · replace hv := hv.2 w1
    refine a_iconst (v := 1) eX7_has_8 (by decide) ?_
    refine a_goto (tgt := 13) eX7_has_9 (by decide) ?_
    refine a_iret eX7_has_13 rfl rfl (ret_i ?_)
    refine a_if_ne (tgt := 70) eX1_wander_66 (by decide) (fun _ => ?_) (fun h => absurd h (by decide))
    refine a_aload_n eX1_wander_70 rfl ?_
    refine gX1_3 hb eX1_wander_71 fl_X1_15 ?_
    refine a_iload_n eX1_wander_74 rfl ?_
    refine a_aload_n eX1_wander_75 rfl ?_
    refine a_iload_n eX1_wander_76 rfl ?_
    refine a_iload eX1_wander_77 rfl ?_
    refine qX1_138 hb rfl eX1_wander_79 (Nat.le_of_ble_eq_true rfl) ?_
    refine Tr.of rfl (Nat.le_of_ble_eq_true rfl) (vs := [some (.ref (G.1 b)), some (.int v3), some (.int v4)]) rfl ?_
    refine a_aload_n eX1_otherEnd_0 rfl ?_
    refine gX1_7 hb eX1_otherEnd_1 fl_X1_24 ?_
    refine a_iload_n eX1_otherEnd_4 rfl ?_
    obtain ⟨h2, hv⟩ := hv
    refine a_iald eX1_otherEnd_5 (ld_5 hb) (ld_in hb 5 (by decide)) h2 ?_
    refine a_iload_n eX1_otherEnd_6 rfl ?_
    refine a_icmp_ne (tgt := 19) eX1_otherEnd_7 (by decide) (fun w3 => ?_) (fun w3 => ?_)
    · replace hv := hv.2 w3
      refine a_aload_n eX1_otherEnd_19 rfl ?_
      refine gX1_7 hb eX1_otherEnd_20 fl_X1_24 ?_
      refine a_iload_n eX1_otherEnd_23 rfl ?_
      obtain ⟨h4, hv⟩ := hv
      refine a_iald eX1_otherEnd_24 (ld_5 hb) (ld_in hb 5 (by decide)) h4 ?_
      refine a_iret eX1_otherEnd_25 rfl rfl (ret_i ?_)
      obtain ⟨h5, hv⟩ := hv
      refine a_iast eX1_wander_82 (ld_8 hb 2 (by decide)) (ld_in hb 2 (by decide)) h5 ?_
      refine a_aload_n eX1_wander_83 rfl ?_
      refine a_dup eX1_wander_84 rfl ?_
      refine gX1_13 hb eX1_wander_85 fl_X1_66 ?_
      refine a_iconst (v := 1) eX1_wander_88 (by decide) ?_
      refine a_iadd eX1_wander_89 ?_
      refine pX1_13 hb eX1_wander_90 fl_X1_66 ?_
      refine a_nm (fun M6 eM6 => ?_)
      replace hv := hv M6 eM6
      refine a_aload_n eX1_wander_93 rfl ?_
      refine gX1_2 hb eX1_wander_94 fl_X1_9 ?_
      refine a_iload_n eX1_wander_97 rfl ?_
      obtain ⟨h7, hv⟩ := hv
      refine a_iald eX1_wander_98 (ld_8 hb 1 (by decide)) (ld_in hb 1 (by decide)) h7 ?_
      exact qX1_141 rfl eX1_wander_99 (Nat.le_of_ble_eq_true rfl) (tr_I [true, true, false, true, false] rfl rfl hv)
    · replace hv := hv.1 w3
      refine a_aload_n eX1_otherEnd_10 rfl ?_
      refine gX1_8 hb eX1_otherEnd_11 fl_X1_27 ?_
      refine a_iload_n eX1_otherEnd_14 rfl ?_
      obtain ⟨h8, hv⟩ := hv
      refine a_iald eX1_otherEnd_15 (ld_6 hb) (ld_in hb 6 (by decide)) h8 ?_
      refine a_goto (tgt := 25) eX1_otherEnd_16 (by decide) ?_
      refine a_iret eX1_otherEnd_25 rfl rfl (ret_i ?_)
      obtain ⟨h9, hv⟩ := hv
      refine a_iast eX1_wander_82 (ld_8 hb 2 (by decide)) (ld_in hb 2 (by decide)) h9 ?_
      refine a_aload_n eX1_wander_83 rfl ?_
      refine a_dup eX1_wander_84 rfl ?_
      refine gX1_13 hb eX1_wander_85 fl_X1_66 ?_
      refine a_iconst (v := 1) eX1_wander_88 (by decide) ?_
      refine a_iadd eX1_wander_89 ?_
      refine pX1_13 hb eX1_wander_90 fl_X1_66 ?_
      refine a_nm (fun M10 eM10 => ?_)
      replace hv := hv M10 eM10
      refine a_aload_n eX1_wander_93 rfl ?_
      refine gX1_2 hb eX1_wander_94 fl_X1_9 ?_
      refine a_iload_n eX1_wander_97 rfl ?_
      obtain ⟨h11, hv⟩ := hv
      refine a_iald eX1_wander_98 (ld_8 hb 1 (by decide)) (ld_in hb 1 (by decide)) h11 ?_
      exact qX1_141 rfl eX1_wander_99 (Nat.le_of_ble_eq_true rfl) (tr_I [true, true, false, true, false] rfl rfl hv)
theorem bX1_wander_102 {l : Launch} {G : GT} {d : Nat} {M : Mem} {R : Option Value → Mem → Prop} {b : Nat} (hb : IsLd b) {v1 : Int32} {v3 : Int32} {r : Int32} (hv : (r = 0 → R none M) ∧ (¬ (r = 0) → vp_in v1 8 ∧ ((((M (b + 4) (ix v1)) >>> (v3 &&& 31)) &&& 1) = 0 → vp_in v1 8 ∧ vp_in v1 8 ∧ ∀ M6 : Mem, M6 = um M (b + 4) (ix v1) ((M (b + 4) (ix v1)) ||| ((1 : Int32) <<< (v3 &&& 31))) → R none (um M6 b 14 ((M6 b 14) + 1))) ∧ (¬ ((((M (b + 4) (ix v1)) >>> (v3 &&& 31)) &&& 1) = 0) → R none M))) : At l G (d + 4) mX1_wander 102 [some (.ref (G.1 b)), some (.int v1), none, some (.int v3), none] [.int r] M R := by
  refine a_if_eq (tgt := 140) eX1_wander_102 (by decide) (fun w1 => ?_) (fun w1 => ?_)
  · replace hv := hv.1 w1
    exact a_vret eX1_wander_140 rfl hv
  · replace hv := hv.2 w1
    refine a_aload_n eX1_wander_105 rfl ?_
    refine gX1_5 hb eX1_wander_106 fl_X1_21 ?_
    refine a_iload_n eX1_wander_109 rfl ?_
    obtain ⟨h2, hv⟩ := hv
    refine a_iald eX1_wander_110 (ld_8 hb 4 (by decide)) (ld_in hb 4 (by decide)) h2 ?_
    refine a_iload_n eX1_wander_111 rfl ?_
    refine qX1_93 rfl eX1_wander_112 (Nat.le_of_ble_eq_true rfl) ?_
    refine Tr.of rfl (Nat.le_of_ble_eq_true rfl) (vs := [some (.int (M (b + 4) (ix v1))), some (.int v3)]) rfl ?_
    refine a_iload_n eX7_has_0 rfl ?_
    refine a_iload_n eX7_has_1 rfl ?_
    refine a_ishr eX7_has_2 ?_
    refine a_iconst (v := 1) eX7_has_3 (by decide) ?_
    refine a_iand eX7_has_4 ?_
    refine a_if_eq (tgt := 12) eX7_has_5 (by decide) (fun w3 => ?_) (fun w3 => ?_)
    · replace hv := hv.1 w3
      refine a_iconst (v := 0) eX7_has_12 (by decide) ?_
      refine a_iret eX7_has_13 rfl rfl (ret_i ?_)
      refine a_if_ne (tgt := 140) eX1_wander_115 (by decide) (fun h => absurd h (by decide)) (fun _ => ?_)
      refine a_aload_n eX1_wander_118 rfl ?_
      refine gX1_5 hb eX1_wander_119 fl_X1_21 ?_
      refine a_iload_n eX1_wander_122 rfl ?_
      refine a_dup2 eX1_wander_123 rfl rfl ?_
      obtain ⟨h4, hv⟩ := hv
      refine a_iald eX1_wander_124 (ld_8 hb 4 (by decide)) (ld_in hb 4 (by decide)) h4 ?_
      refine a_iconst (v := 1) eX1_wander_125 (by decide) ?_
      refine a_iload_n eX1_wander_126 rfl ?_
      refine a_ishl eX1_wander_127 ?_
      refine a_ior eX1_wander_128 ?_
      obtain ⟨h5, hv⟩ := hv
      refine a_iast eX1_wander_129 (ld_8 hb 4 (by decide)) (ld_in hb 4 (by decide)) h5 ?_
      refine a_nm (fun M6 eM6 => ?_)
      replace hv := hv M6 eM6
      refine a_aload_n eX1_wander_130 rfl ?_
      refine a_dup eX1_wander_131 rfl ?_
      refine gX1_14 hb eX1_wander_132 fl_X1_69 ?_
      refine a_iconst (v := 1) eX1_wander_135 (by decide) ?_
      refine a_iadd eX1_wander_136 ?_
      refine pX1_14 hb eX1_wander_137 fl_X1_69 ?_
      exact a_vret eX1_wander_140 rfl hv
    · replace hv := hv.2 w3
      refine a_iconst (v := 1) eX7_has_8 (by decide) ?_
      refine a_goto (tgt := 13) eX7_has_9 (by decide) ?_
      refine a_iret eX7_has_13 rfl rfl (ret_i ?_)
      refine a_if_ne (tgt := 140) eX1_wander_115 (by decide) (fun _ => ?_) (fun h => absurd h (by decide))
      exact a_vret eX1_wander_140 rfl hv
theorem tX1_grow {l : Launch} {G : GT} {d : Nat} {M : Mem} {R : Option Value → Mem → Prop} {b : Nat} (hb : IsLd b) {v1 : Int32} (hv : vp_in v1 8 ∧ vp_in v1 8 ∧ ∀ M3 : Mem, M3 = um M (b + 3) (ix v1) (if 99 < ((M (b + 3) (ix v1)) + 1) then 99 else ((M (b + 3) (ix v1)) + 1)) → vp_in v1 8 ∧ (((M3 (b + 3) (ix v1)) - (M3 (b + 3) (ix v1)) / 10 * 10) = 0 → vp_in v1 8 ∧ ((M3 (b + 1) (ix v1)) = 1 → At l G (d + 4) mX1_grow 44 [some (.ref (G.1 b)), some (.int v1), some (.int 0), some (.int 0)] [] M3 R) ∧ ((M3 (b + 1) (ix v1)) = 3 → At l G (d + 4) mX1_grow 44 [some (.ref (G.1 b)), some (.int v1), some (.int 2), some (.int 0)] [] M3 R) ∧ (¬ (M3 (b + 1) (ix v1)) = 1 → ¬ (M3 (b + 1) (ix v1)) = 3 → At l G (d + 4) mX1_grow 44 [some (.ref (G.1 b)), some (.int v1), some (.int 1), some (.int 0)] [] M3 R)) ∧ (¬ (((M3 (b + 3) (ix v1)) - (M3 (b + 3) (ix v1)) / 10 * 10) = 0) → R none M3)) : Tr l G (d + 4) mX1_grow [.ref (G.1 b), .int v1] M R := by
  refine Tr.of rfl (Nat.le_of_ble_eq_true rfl) (vs := [some (.ref (G.1 b)), some (.int v1), none, none]) rfl ?_
  refine a_aload_n eX1_grow_0 rfl ?_
  refine gX1_4 hb eX1_grow_1 fl_X1_18 ?_
  refine a_iload_n eX1_grow_4 rfl ?_
  refine a_aload_n eX1_grow_5 rfl ?_
  refine gX1_4 hb eX1_grow_6 fl_X1_18 ?_
  refine a_iload_n eX1_grow_9 rfl ?_
  obtain ⟨h1, hv⟩ := hv
  refine a_iald eX1_grow_10 (ld_8 hb 3 (by decide)) (ld_in hb 3 (by decide)) h1 ?_
  refine a_iconst (v := 1) eX1_grow_11 (by decide) ?_
  refine a_iadd eX1_grow_12 ?_
  refine a_bipush (v := 99) eX1_grow_13 (by decide) ?_
  refine a_mmin eX1_grow_15 ml_X1_147 stMin inMa cwMin (by omega) (Nat.le_of_ble_eq_true rfl) ?_
  obtain ⟨h2, hv⟩ := hv
  refine a_iast eX1_grow_18 (ld_8 hb 3 (by decide)) (ld_in hb 3 (by decide)) h2 ?_
  refine a_nm (fun M3 eM3 => ?_)
  replace hv := hv M3 eM3
  refine a_aload_n eX1_grow_19 rfl ?_
  refine gX1_4 hb eX1_grow_20 fl_X1_18 ?_
  refine a_iload_n eX1_grow_23 rfl ?_
  obtain ⟨h4, hv⟩ := hv
  refine a_iald eX1_grow_24 (ld_8 hb 3 (by decide)) (ld_in hb 3 (by decide)) h4 ?_
  refine a_bipush (v := 10) eX1_grow_25 (by decide) ?_
  refine a_irem eX1_grow_27 (by decide) ?_
  refine a_if_eq (tgt := 32) eX1_grow_28 (by decide) (fun w5 => ?_) (fun w5 => ?_)
  · replace hv := hv.1 w5
    refine a_aload_n eX1_grow_32 rfl ?_
    refine gX1_2 hb eX1_grow_33 fl_X1_9 ?_
    refine a_iload_n eX1_grow_36 rfl ?_
    obtain ⟨h6, hv⟩ := hv
    refine a_iald eX1_grow_37 (ld_8 hb 1 (by decide)) (ld_in hb 1 (by decide)) h6 ?_
    refine qX1_152 rfl eX1_grow_38 (Nat.le_of_ble_eq_true rfl) ?_
    refine Tr.of rfl (Nat.le_of_ble_eq_true rfl) (vs := [some (.int (M3 (b + 1) (ix v1)))]) rfl ?_
    refine a_iload_n eX0_loses_0 rfl ?_
    by_cases w7 : (M3 (b + 1) (ix v1)) = 1
    · refine a_lsw (off := 27) (tgt := 28) eX0_loses_1 (by decide) (by rw [w7]; try rfl) (by decide) ?_
      replace hv := hv.1 w7
      refine a_iconst (v := 0) eX0_loses_28 (by decide) ?_
      refine a_iret eX0_loses_29 rfl rfl (ret_i ?_)
      refine a_istore_n (vs' := [some (.ref (G.1 b)), some (.int v1), some (.int 0), none]) eX1_grow_41 rfl (Nat.le_of_ble_eq_true rfl) rfl ?_
      refine a_iconst (v := 0) eX1_grow_42 (by decide) ?_
      refine a_istore_n (vs' := [some (.ref (G.1 b)), some (.int v1), some (.int 0), some (.int 0)]) eX1_grow_43 rfl (Nat.le_of_ble_eq_true rfl) rfl ?_
      exact a_weak [true, true, true, true] rfl rfl hv
    by_cases w8 : (M3 (b + 1) (ix v1)) = 3
    · refine a_lsw (off := 29) (tgt := 30) eX0_loses_1 (by decide) (by rw [w8]; try rfl) (by decide) ?_
      replace hv := hv.2.1 w8
      refine a_iconst (v := 2) eX0_loses_30 (by decide) ?_
      refine a_iret eX0_loses_31 rfl rfl (ret_i ?_)
      refine a_istore_n (vs' := [some (.ref (G.1 b)), some (.int v1), some (.int 2), none]) eX1_grow_41 rfl (Nat.le_of_ble_eq_true rfl) rfl ?_
      refine a_iconst (v := 0) eX1_grow_42 (by decide) ?_
      refine a_istore_n (vs' := [some (.ref (G.1 b)), some (.int v1), some (.int 2), some (.int 0)]) eX1_grow_43 rfl (Nat.le_of_ble_eq_true rfl) rfl ?_
      exact a_weak [true, true, true, true] rfl rfl hv
    refine a_lsw (off := 31) (tgt := 32) eX0_loses_1 (by decide) (by rw [lv_osw w7 (by decide)]; rw [lv_osw w8 (by decide)]; try rfl) (by decide) ?_
    replace hv := hv.2.2 w7 w8
    refine a_iconst (v := 1) eX0_loses_32 (by decide) ?_
    refine a_iret eX0_loses_33 rfl rfl (ret_i ?_)
    refine a_istore_n (vs' := [some (.ref (G.1 b)), some (.int v1), some (.int 1), none]) eX1_grow_41 rfl (Nat.le_of_ble_eq_true rfl) rfl ?_
    refine a_iconst (v := 0) eX1_grow_42 (by decide) ?_
    refine a_istore_n (vs' := [some (.ref (G.1 b)), some (.int v1), some (.int 1), some (.int 0)]) eX1_grow_43 rfl (Nat.le_of_ble_eq_true rfl) rfl ?_
    exact a_weak [true, true, true, true] rfl rfl hv
  · replace hv := hv.2 w5
    exact a_vret eX1_grow_31 rfl hv
theorem bX1_grow_44 {l : Launch} {G : GT} {d : Nat} {M : Mem} {R : Option Value → Mem → Prop} {b : Nat} (hb : IsLd b) {v1 : Int32} {v2 : Int32} {v3 : Int32} (hv : (v2 ≤ v3 → R none M) ∧ (¬ (v2 ≤ v3) → vp_in v1 8 ∧ ((M (b + 4) (ix v1)) = 0 → R none M) ∧ (¬ ((M (b + 4) (ix v1)) = 0) → vp_in v1 8 ∧ vp_in v1 8 ∧ vp_in v1 8 ∧ ∀ M7 : Mem, M7 = um M (b + 4) (ix v1) ((M (b + 4) (ix v1)) &&& ((M (b + 4) (ix v1)) - 1)) → At l G (d + 4) mX1_grow 44 [some (.ref (G.1 b)), some (.int v1), some (.int v2), some (.int (v3 + 1))] [] (um M7 b 15 ((M7 b 15) + 1)) R))) : At l G (d + 4) mX1_grow 44 [some (.ref (G.1 b)), some (.int v1), some (.int v2), some (.int v3)] [] M R := by
  refine a_iload_n eX1_grow_44 rfl ?_
  refine a_iload_n eX1_grow_45 rfl ?_
  refine a_icmp_ge (tgt := 91) eX1_grow_46 (by decide) (fun w1 => ?_) (fun w1 => ?_)
  · replace hv := hv.1 w1
    exact a_vret eX1_grow_91 rfl hv
  · replace hv := hv.2 w1
    refine a_aload_n eX1_grow_49 rfl ?_
    refine gX1_5 hb eX1_grow_50 fl_X1_21 ?_
    refine a_iload_n eX1_grow_53 rfl ?_
    obtain ⟨h2, hv⟩ := hv
    refine a_iald eX1_grow_54 (ld_8 hb 4 (by decide)) (ld_in hb 4 (by decide)) h2 ?_
    refine a_if_eq (tgt := 91) eX1_grow_55 (by decide) (fun w3 => ?_) (fun w3 => ?_)
    · replace hv := hv.1 w3
      exact a_vret eX1_grow_91 rfl hv
    · replace hv := hv.2 w3
      refine a_aload_n eX1_grow_58 rfl ?_
      refine gX1_5 hb eX1_grow_59 fl_X1_21 ?_
      refine a_iload_n eX1_grow_62 rfl ?_
      refine a_dup2 eX1_grow_63 rfl rfl ?_
      obtain ⟨h4, hv⟩ := hv
      refine a_iald eX1_grow_64 (ld_8 hb 4 (by decide)) (ld_in hb 4 (by decide)) h4 ?_
      refine a_aload_n eX1_grow_65 rfl ?_
      refine gX1_5 hb eX1_grow_66 fl_X1_21 ?_
      refine a_iload_n eX1_grow_69 rfl ?_
      obtain ⟨h5, hv⟩ := hv
      refine a_iald eX1_grow_70 (ld_8 hb 4 (by decide)) (ld_in hb 4 (by decide)) h5 ?_
      refine a_iconst (v := 1) eX1_grow_71 (by decide) ?_
      refine a_isub eX1_grow_72 ?_
      refine a_iand eX1_grow_73 ?_
      obtain ⟨h6, hv⟩ := hv
      refine a_iast eX1_grow_74 (ld_8 hb 4 (by decide)) (ld_in hb 4 (by decide)) h6 ?_
      refine a_nm (fun M7 eM7 => ?_)
      replace hv := hv M7 eM7
      refine a_aload_n eX1_grow_75 rfl ?_
      refine a_dup eX1_grow_76 rfl ?_
      refine gX1_15 hb eX1_grow_77 fl_X1_72 ?_
      refine a_iconst (v := 1) eX1_grow_80 (by decide) ?_
      refine a_iadd eX1_grow_81 ?_
      refine pX1_15 hb eX1_grow_82 fl_X1_72 ?_
      refine a_iinc (v := 1) (vs' := [some (.ref (G.1 b)), some (.int v1), some (.int v2), some (.int (v3 + 1))]) eX1_grow_85 rfl rfl (by decide) rfl ?_
      refine a_goto (tgt := 44) eX1_grow_88 (by decide) ?_
      exact a_weak [true, true, true, true] rfl rfl hv
theorem tX1_slip {l : Launch} {G : GT} {d : Nat} {M : Mem} {R : Option Value → Mem → Prop} {b : Nat} (hb : IsLd b) (hv : (((um M b 17 (((M b 17) * 1103515245) + 12345)) b 12) ≤ (((((um M b 17 (((M b 17) * 1103515245) + 12345)) b 17).toUInt32 >>> ((8 : Int32).toUInt32 &&& Int32.toUInt32 31)).toInt32) - ((((um M b 17 (((M b 17) * 1103515245) + 12345)) b 17).toUInt32 >>> ((8 : Int32).toUInt32 &&& Int32.toUInt32 31)).toInt32) / 100 * 100) → R none (um M b 17 (((M b 17) * 1103515245) + 12345))) ∧ (¬ (((um M b 17 (((M b 17) * 1103515245) + 12345)) b 12) ≤ (((((um M b 17 (((M b 17) * 1103515245) + 12345)) b 17).toUInt32 >>> ((8 : Int32).toUInt32 &&& Int32.toUInt32 31)).toInt32) - ((((um M b 17 (((M b 17) * 1103515245) + 12345)) b 17).toUInt32 >>> ((8 : Int32).toUInt32 &&& Int32.toUInt32 31)).toInt32) / 100 * 100)) → (((um M b 17 (((M b 17) * 1103515245) + 12345)) b 6) = 0 → R none (um M b 17 (((M b 17) * 1103515245) + 12345))) ∧ (¬ (((um M b 17 (((M b 17) * 1103515245) + 12345)) b 6) = 0) → ∀ M3 : Mem, M3 = um (um M b 17 (((M b 17) * 1103515245) + 12345)) b 17 ((((um M b 17 (((M b 17) * 1103515245) + 12345)) b 17) * 1103515245) + 12345) → ¬ (M3 b 6) = 0 ∧ ∀ M5 : Mem, M5 = um M3 b 10 (((um M b 17 (((M b 17) * 1103515245) + 12345)) b 10) ^^^ ((1 : Int32) <<< (((((M3 b 17).toUInt32 >>> ((8 : Int32).toUInt32 &&& Int32.toUInt32 31)).toInt32) - (((M3 b 17).toUInt32 >>> ((8 : Int32).toUInt32 &&& Int32.toUInt32 31)).toInt32) / (M3 b 6) * (M3 b 6)) &&& 31))) → R none M5))) : Tr l G (d + 4) mX1_slip [.ref (G.1 b)] M R := by
  refine Tr.of rfl (Nat.le_of_ble_eq_true rfl) (vs := [some (.ref (G.1 b)), none]) rfl ?_
  refine a_aload_n eX1_slip_0 rfl ?_
  refine qX1_82 hb rfl eX1_slip_1 (Nat.le_of_ble_eq_true rfl) ?_
  refine Tr.of rfl (Nat.le_of_ble_eq_true rfl) (vs := [some (.ref (G.1 b))]) rfl ?_
  refine a_aload_n eX1_draw_0 rfl ?_
  refine a_aload_n eX1_draw_1 rfl ?_
  refine gX1_17 hb eX1_draw_2 fl_X1_40 ?_
  refine a_ldc eX1_draw_5 kc_X1_121 ?_
  refine a_imul eX1_draw_7 ?_
  refine a_sipush (v := 12345) eX1_draw_8 (by decide) ?_
  refine a_iadd eX1_draw_11 ?_
  refine pX1_17 hb eX1_draw_12 fl_X1_40 ?_
  refine a_aload_n eX1_draw_15 rfl ?_
  refine gX1_17 hb eX1_draw_16 fl_X1_40 ?_
  refine a_bipush (v := 8) eX1_draw_19 (by decide) ?_
  refine a_iushr eX1_draw_21 ?_
  refine a_iret eX1_draw_22 rfl rfl (ret_i ?_)
  refine a_bipush (v := 100) eX1_slip_4 (by decide) ?_
  refine a_irem eX1_slip_6 (by decide) ?_
  refine a_istore_n (vs' := [some (.ref (G.1 b)), some (.int (((((um M b 17 (((M b 17) * 1103515245) + 12345)) b 17).toUInt32 >>> ((8 : Int32).toUInt32 &&& Int32.toUInt32 31)).toInt32) - ((((um M b 17 (((M b 17) * 1103515245) + 12345)) b 17).toUInt32 >>> ((8 : Int32).toUInt32 &&& Int32.toUInt32 31)).toInt32) / 100 * 100))]) eX1_slip_7 rfl (Nat.le_of_ble_eq_true rfl) rfl ?_
  refine a_iload_n eX1_slip_8 rfl ?_
  refine a_aload_n eX1_slip_9 rfl ?_
  refine gX1_12 hb eX1_slip_10 fl_X1_37 ?_
  refine a_icmp_ge (tgt := 23) eX1_slip_13 (by decide) (fun w1 => ?_) (fun w1 => ?_)
  · replace hv := hv.1 w1
    exact a_vret eX1_slip_23 rfl hv
  · replace hv := hv.2 w1
    refine a_aload_n eX1_slip_16 rfl ?_
    refine gX1_6 hb eX1_slip_17 fl_X1_60 ?_
    refine a_if_ne (tgt := 24) eX1_slip_20 (by decide) (fun w2 => ?_) (fun w2 => ?_)
    · replace hv := hv.2 w2
      refine a_aload_n eX1_slip_24 rfl ?_
      refine a_dup eX1_slip_25 rfl ?_
      refine gX1_10 hb eX1_slip_26 fl_X1_63 ?_
      refine a_iconst (v := 1) eX1_slip_29 (by decide) ?_
      refine a_aload_n eX1_slip_30 rfl ?_
      refine qX1_82 hb rfl eX1_slip_31 (Nat.le_of_ble_eq_true rfl) ?_
      refine Tr.of rfl (Nat.le_of_ble_eq_true rfl) (vs := [some (.ref (G.1 b))]) rfl ?_
      refine a_aload_n eX1_draw_0 rfl ?_
      refine a_aload_n eX1_draw_1 rfl ?_
      refine gX1_17 hb eX1_draw_2 fl_X1_40 ?_
      refine a_ldc eX1_draw_5 kc_X1_121 ?_
      refine a_imul eX1_draw_7 ?_
      refine a_sipush (v := 12345) eX1_draw_8 (by decide) ?_
      refine a_iadd eX1_draw_11 ?_
      refine pX1_17 hb eX1_draw_12 fl_X1_40 ?_
      refine a_nm (fun M3 eM3 => ?_)
      replace hv := hv M3 eM3
      refine a_aload_n eX1_draw_15 rfl ?_
      refine gX1_17 hb eX1_draw_16 fl_X1_40 ?_
      refine a_bipush (v := 8) eX1_draw_19 (by decide) ?_
      refine a_iushr eX1_draw_21 ?_
      refine a_iret eX1_draw_22 rfl rfl (ret_i ?_)
      refine a_aload_n eX1_slip_34 rfl ?_
      refine gX1_6 hb eX1_slip_35 fl_X1_60 ?_
      obtain ⟨h4, hv⟩ := hv
      refine a_irem eX1_slip_38 h4 ?_
      refine a_ishl eX1_slip_39 ?_
      refine a_ixor eX1_slip_40 ?_
      refine pX1_10 hb eX1_slip_41 fl_X1_63 ?_
      refine a_nm (fun M5 eM5 => ?_)
      replace hv := hv M5 eM5
      exact a_vret eX1_slip_44 rfl hv
    · replace hv := hv.1 w2
      exact a_vret eX1_slip_23 rfl hv
theorem tX2_take {l : Launch} {G : GT} {d : Nat} {M : Mem} {R : Option Value → Mem → Prop} {v1 : Int32} (hv : vp_in v1 14 ∧ ∀ M2 : Mem, M2 = ua M (7 + ix v1) (va_cpy (M 23) (M (7 + ix v1)) (ix 0) (ix 0) (ix 96)) → vp_in v1 14 ∧ vp_in v1 14 ∧ ∀ M5 : Mem, M5 = um (um M2 3 (ix v1) (M2 21 3)) 4 (ix v1) ((um M2 3 (ix v1) (M2 21 3)) 21 5) → vp_in v1 14 ∧ R none (um M5 5 (ix v1) (M5 21 4))) : Tr l G (d + 4) mX2_take [.ref (G.1 1), .int v1, .ref (G.1 21)] M R := by
  refine Tr.of rfl (Nat.le_of_ble_eq_true rfl) (vs := [some (.ref (G.1 1)), some (.int v1), some (.ref (G.1 21))]) rfl ?_
  refine a_aload_n eX2_take_0 rfl ?_
  refine gX5_2 eX2_take_1 fl_X2_29 ?_
  refine a_iconst (v := 0) eX2_take_4 (by decide) ?_
  refine a_aload_n eX2_take_5 rfl ?_
  refine gX2_0 eX2_take_6 fl_X2_11 ?_
  refine a_iload_n eX2_take_9 rfl ?_
  obtain ⟨h1, hv⟩ := hv
  refine a_aald_codes eX2_take_10 h1 ?_
  refine a_iconst (v := 0) eX2_take_11 (by decide) ?_
  refine a_bipush (v := 96) eX2_take_12 (by decide) ?_
  refine a_copy eX2_take_14 ml_X2_33 nmA stA inA sA23 kA23 (cod_sh (vp_lt h1)) (cod_in (vp_lt h1)) (by decide) (by decide) (by decide) (by decide) (by decide) (by omega) (Nat.le_of_ble_eq_true rfl) ?_
  refine a_nm (fun M2 eM2 => ?_)
  replace hv := hv M2 eM2
  refine a_aload_n eX2_take_17 rfl ?_
  refine gX2_1 eX2_take_18 fl_X2_16 ?_
  refine a_iload_n eX2_take_21 rfl ?_
  refine a_aload_n eX2_take_22 rfl ?_
  refine gX5_3 eX2_take_23 fl_X2_39 ?_
  obtain ⟨h3, hv⟩ := hv
  refine a_iast eX2_take_26 sA3 kA3 h3 ?_
  refine a_aload_n eX2_take_27 rfl ?_
  refine gX2_2 eX2_take_28 fl_X2_20 ?_
  refine a_iload_n eX2_take_31 rfl ?_
  refine a_aload_n eX2_take_32 rfl ?_
  refine gX5_5 eX2_take_33 fl_X2_43 ?_
  obtain ⟨h4, hv⟩ := hv
  refine a_iast eX2_take_36 sA4 kA4 h4 ?_
  refine a_nm (fun M5 eM5 => ?_)
  replace hv := hv M5 eM5
  refine a_aload_n eX2_take_37 rfl ?_
  refine gX2_3 eX2_take_38 fl_X2_23 ?_
  refine a_iload_n eX2_take_41 rfl ?_
  refine a_aload_n eX2_take_42 rfl ?_
  refine gX5_4 eX2_take_43 fl_X2_46 ?_
  obtain ⟨h6, hv⟩ := hv
  refine a_iast eX2_take_46 sA5 kA5 h6 ?_
  exact a_vret eX2_take_47 rfl hv
theorem tX2_valueOf {l : Launch} {G : GT} {d : Nat} {M : Mem} {R : Option Value → Mem → Prop} {v1 : Int32} {v2 : Int32} {v3 : Int32} {v4 : Int32} (hv : (v1 < 0 → R (some (.int 0)) M) ∧ (¬ (v1 < 0) → (v1 < 14 → vp_in v1 14 ∧ At l G (d + 4) mX2_valueOf 26 [some (.ref (G.1 1)), some (.int v1), some (.int v2), some (.int v3), some (.int v4), some (.ref (G.1 (7 + ix v1))), some (.int 0), some (.int 0), none, none] [] M R) ∧ (¬ (v1 < 14) → R (some (.int 0)) M))) : Tr l G (d + 4) mX2_valueOf [.ref (G.1 1), .int v1, .int v2, .int v3, .int v4] M R := by
  refine Tr.of rfl (Nat.le_of_ble_eq_true rfl) (vs := [some (.ref (G.1 1)), some (.int v1), some (.int v2), some (.int v3), some (.int v4), none, none, none, none, none]) rfl ?_
  refine a_iload_n eX2_valueOf_0 rfl ?_
  refine a_if_lt (tgt := 10) eX2_valueOf_1 (by decide) (fun w1 => ?_) (fun w1 => ?_)
  · replace hv := hv.1 w1
    refine a_iconst (v := 0) eX2_valueOf_10 (by decide) ?_
    exact a_iret eX2_valueOf_11 rfl rfl hv
  · replace hv := hv.2 w1
    refine a_iload_n eX2_valueOf_4 rfl ?_
    refine a_bipush (v := 14) eX2_valueOf_5 (by decide) ?_
    refine a_icmp_lt (tgt := 12) eX2_valueOf_7 (by decide) (fun w2 => ?_) (fun w2 => ?_)
    · replace hv := hv.1 w2
      refine a_aload_n eX2_valueOf_12 rfl ?_
      refine gX2_0 eX2_valueOf_13 fl_X2_11 ?_
      refine a_iload_n eX2_valueOf_16 rfl ?_
      obtain ⟨h3, hv⟩ := hv
      refine a_aald_codes eX2_valueOf_17 h3 ?_
      refine a_astore (vs' := [some (.ref (G.1 1)), some (.int v1), some (.int v2), some (.int v3), some (.int v4), some (.ref (G.1 (7 + ix v1))), none, none, none, none]) eX2_valueOf_18 rfl (Nat.le_of_ble_eq_true rfl) rfl ?_
      refine a_iconst (v := 0) eX2_valueOf_20 (by decide) ?_
      refine a_istore (vs' := [some (.ref (G.1 1)), some (.int v1), some (.int v2), some (.int v3), some (.int v4), some (.ref (G.1 (7 + ix v1))), some (.int 0), none, none, none]) eX2_valueOf_21 rfl (Nat.le_of_ble_eq_true rfl) rfl ?_
      refine a_iconst (v := 0) eX2_valueOf_23 (by decide) ?_
      refine a_istore (vs' := [some (.ref (G.1 1)), some (.int v1), some (.int v2), some (.int v3), some (.int v4), some (.ref (G.1 (7 + ix v1))), some (.int 0), some (.int 0), none, none]) eX2_valueOf_24 rfl (Nat.le_of_ble_eq_true rfl) rfl ?_
      exact a_weak [true, true, true, true, true, true, true, true, false, false] rfl rfl hv
    · replace hv := hv.2 w2
      refine a_iconst (v := 0) eX2_valueOf_10 (by decide) ?_
      exact a_iret eX2_valueOf_11 rfl rfl hv
theorem bX2_valueOf_26 {l : Launch} {G : GT} {d : Nat} {M : Mem} {R : Option Value → Mem → Prop} {v1 : Int32} {v2 : Int32} {v3 : Int32} {v4 : Int32} {c5 : Nat} (hsc5 : shp c5 = (1, 96, [])) (hkc5 : inK c5 = true) {v6 : Int32} {v7 : Int32} (hv : vp_in v1 14 ∧ ((M 3 (ix v1)) ≤ v7 → At l G (d + 4) mX2_valueOf 236 [some (.ref (G.1 1)), none, none, none, none, none, none, none, none, none] [] M R) ∧ (¬ ((M 3 (ix v1)) ≤ v7) → (96 ≤ v7 → At l G (d + 4) mX2_valueOf 236 [some (.ref (G.1 1)), none, none, none, none, none, none, none, none, none] [] M R) ∧ (¬ (96 ≤ v7) → vp_in v7 96 ∧ (10000 ≤ (M c5 (ix v7)) → At l G (d + 4) mX2_valueOf 85 [some (.ref (G.1 1)), some (.int v1), some (.int v2), some (.int v3), some (.int v4), some (.ref (G.1 c5)), some (.int v6), some (.int v7), some (.int (M c5 (ix v7))), none] [] M R) ∧ (¬ (10000 ≤ (M c5 (ix v7))) → (96 ≤ v6 → At l G (d + 4) mX2_valueOf 85 [some (.ref (G.1 1)), some (.int v1), some (.int v2), some (.int v3), some (.int v4), some (.ref (G.1 c5)), some (.int v6), some (.int v7), some (.int (M c5 (ix v7))), none] [] M R) ∧ (¬ (96 ≤ v6) → vp_in v6 96 ∧ At l G (d + 4) mX2_valueOf 230 [some (.ref (G.1 1)), some (.int v1), some (.int v2), some (.int v3), some (.int v4), some (.ref (G.1 c5)), some (.int (v6 + 1)), some (.int v7), none, none] [] (um M 6 (ix v6) (M c5 (ix v7))) R))))) : At l G (d + 4) mX2_valueOf 26 [some (.ref (G.1 1)), some (.int v1), some (.int v2), some (.int v3), some (.int v4), some (.ref (G.1 c5)), some (.int v6), some (.int v7), none, none] [] M R := by
  refine a_iload eX2_valueOf_26 rfl ?_
  refine a_aload_n eX2_valueOf_28 rfl ?_
  refine gX2_1 eX2_valueOf_29 fl_X2_16 ?_
  refine a_iload_n eX2_valueOf_32 rfl ?_
  obtain ⟨h1, hv⟩ := hv
  refine a_iald eX2_valueOf_33 sA3 kA3 h1 ?_
  refine a_icmp_ge (tgt := 236) eX2_valueOf_34 (by decide) (fun w2 => ?_) (fun w2 => ?_)
  · replace hv := hv.1 w2
    exact a_weak [true, false, false, false, false, false, false, false, false, false] rfl rfl hv
  · replace hv := hv.2 w2
    refine a_iload eX2_valueOf_37 rfl ?_
    refine a_aload eX2_valueOf_39 rfl ?_
    refine a_alen (v := 96) eX2_valueOf_41 hsc5 hkc5 (by decide) ?_
    refine a_icmp_ge (tgt := 236) eX2_valueOf_42 (by decide) (fun w3 => ?_) (fun w3 => ?_)
    · replace hv := hv.1 w3
      exact a_weak [true, false, false, false, false, false, false, false, false, false] rfl rfl hv
    · replace hv := hv.2 w3
      refine a_aload eX2_valueOf_45 rfl ?_
      refine a_iload eX2_valueOf_47 rfl ?_
      obtain ⟨h4, hv⟩ := hv
      refine a_iald eX2_valueOf_49 hsc5 hkc5 h4 ?_
      refine a_istore (vs' := [some (.ref (G.1 1)), some (.int v1), some (.int v2), some (.int v3), some (.int v4), some (.ref (G.1 c5)), some (.int v6), some (.int v7), some (.int (M c5 (ix v7))), none]) eX2_valueOf_50 rfl (Nat.le_of_ble_eq_true rfl) rfl ?_
      refine a_iload eX2_valueOf_52 rfl ?_
      refine a_sipush (v := 10000) eX2_valueOf_54 (by decide) ?_
      refine a_icmp_ge (tgt := 85) eX2_valueOf_57 (by decide) (fun w5 => ?_) (fun w5 => ?_)
      · replace hv := hv.1 w5
        exact a_weak [true, true, true, true, true, true, true, true, true, false] rfl rfl hv
      · replace hv := hv.2 w5
        refine a_iload eX2_valueOf_60 rfl ?_
        refine a_aload_n eX2_valueOf_62 rfl ?_
        refine gX2_4 eX2_valueOf_63 fl_X2_26 ?_
        refine a_alen (v := 96) eX2_valueOf_66 sA6 kA6 (by decide) ?_
        refine a_icmp_ge (tgt := 85) eX2_valueOf_67 (by decide) (fun w6 => ?_) (fun w6 => ?_)
        · replace hv := hv.1 w6
          exact a_weak [true, true, true, true, true, true, true, true, true, false] rfl rfl hv
        · replace hv := hv.2 w6
          refine a_aload_n eX2_valueOf_70 rfl ?_
          refine gX2_4 eX2_valueOf_71 fl_X2_26 ?_
          refine a_iload eX2_valueOf_74 rfl ?_
          refine a_iinc (v := 1) (vs' := [some (.ref (G.1 1)), some (.int v1), some (.int v2), some (.int v3), some (.int v4), some (.ref (G.1 c5)), some (.int (v6 + 1)), some (.int v7), some (.int (M c5 (ix v7))), none]) eX2_valueOf_76 rfl rfl (by decide) rfl ?_
          refine a_iload eX2_valueOf_79 rfl ?_
          obtain ⟨h7, hv⟩ := hv
          refine a_iast eX2_valueOf_81 sA6 kA6 h7 ?_
          refine a_goto (tgt := 230) eX2_valueOf_82 (by decide) ?_
          exact a_weak [true, true, true, true, true, true, true, true, false, false] rfl rfl hv
theorem bX2_valueOf_230 {l : Launch} {G : GT} {d : Nat} {M : Mem} {R : Option Value → Mem → Prop} {v1 : Int32} {v2 : Int32} {v3 : Int32} {v4 : Int32} {c5 : Nat} (hsc5 : shp c5 = (1, 96, [])) (hkc5 : inK c5 = true) {v6 : Int32} {v7 : Int32} (hv : At l G (d + 4) mX2_valueOf 26 [some (.ref (G.1 1)), some (.int v1), some (.int v2), some (.int v3), some (.int v4), some (.ref (G.1 c5)), some (.int v6), some (.int (v7 + 1)), none, none] [] M R) : At l G (d + 4) mX2_valueOf 230 [some (.ref (G.1 1)), some (.int v1), some (.int v2), some (.int v3), some (.int v4), some (.ref (G.1 c5)), some (.int v6), some (.int v7), none, none] [] M R := by
  refine a_iinc (v := 1) (vs' := [some (.ref (G.1 1)), some (.int v1), some (.int v2), some (.int v3), some (.int v4), some (.ref (G.1 c5)), some (.int v6), some (.int (v7 + 1)), none, none]) eX2_valueOf_230 rfl rfl (by decide) rfl ?_
  refine a_goto (tgt := 26) eX2_valueOf_233 (by decide) ?_
  exact a_weak [true, true, true, true, true, true, true, true, false, false] rfl rfl hv
theorem bX2_valueOf_85 {l : Launch} {G : GT} {d : Nat} {M : Mem} {R : Option Value → Mem → Prop} {v1 : Int32} {v2 : Int32} {v3 : Int32} {v4 : Int32} {c5 : Nat} (hsc5 : shp c5 = (1, 96, [])) (hkc5 : inK c5 = true) {v6 : Int32} {v7 : Int32} {v8 : Int32} (hv : (20000 ≤ v8 → At l G (d + 4) mX2_valueOf 145 [some (.ref (G.1 1)), some (.int v1), some (.int v2), some (.int v3), some (.int v4), some (.ref (G.1 c5)), some (.int v6), some (.int v7), some (.int v8), none] [] M R) ∧ (¬ (20000 ≤ v8) → (96 ≤ v6 → At l G (d + 4) mX2_valueOf 145 [some (.ref (G.1 1)), some (.int v1), some (.int v2), some (.int v3), some (.int v4), some (.ref (G.1 c5)), some (.int v6), some (.int v7), some (.int v8), none] [] M R) ∧ (¬ (96 ≤ v6) → ((v8 - 10000) = 0 → At l G (d + 4) mX2_valueOf 141 [some (.ref (G.1 1)), some (.int v1), some (.int v2), some (.int v3), some (.int v4), some (.ref (G.1 c5)), some (.int (v6 + 1)), some (.int v7), none, none] [.int v2, .int v6, .ref (G.1 6)] M R) ∧ (¬ ((v8 - 10000) = 0) → ((v8 - 10000) = 1 → At l G (d + 4) mX2_valueOf 141 [some (.ref (G.1 1)), some (.int v1), some (.int v2), some (.int v3), some (.int v4), some (.ref (G.1 c5)), some (.int (v6 + 1)), some (.int v7), none, none] [.int v3, .int v6, .ref (G.1 6)] M R) ∧ (¬ ((v8 - 10000) = 1) → At l G (d + 4) mX2_valueOf 141 [some (.ref (G.1 1)), some (.int v1), some (.int v2), some (.int v3), some (.int v4), some (.ref (G.1 c5)), some (.int (v6 + 1)), some (.int v7), none, none] [.int v4, .int v6, .ref (G.1 6)] M R))))) : At l G (d + 4) mX2_valueOf 85 [some (.ref (G.1 1)), some (.int v1), some (.int v2), some (.int v3), some (.int v4), some (.ref (G.1 c5)), some (.int v6), some (.int v7), some (.int v8), none] [] M R := by
  refine a_iload eX2_valueOf_85 rfl ?_
  refine a_sipush (v := 20000) eX2_valueOf_87 (by decide) ?_
  refine a_icmp_ge (tgt := 145) eX2_valueOf_90 (by decide) (fun w1 => ?_) (fun w1 => ?_)
  · replace hv := hv.1 w1
    exact a_weak [true, true, true, true, true, true, true, true, true, false] rfl rfl hv
  · replace hv := hv.2 w1
    refine a_iload eX2_valueOf_93 rfl ?_
    refine a_aload_n eX2_valueOf_95 rfl ?_
    refine gX2_4 eX2_valueOf_96 fl_X2_26 ?_
    refine a_alen (v := 96) eX2_valueOf_99 sA6 kA6 (by decide) ?_
    refine a_icmp_ge (tgt := 145) eX2_valueOf_100 (by decide) (fun w2 => ?_) (fun w2 => ?_)
    · replace hv := hv.1 w2
      exact a_weak [true, true, true, true, true, true, true, true, true, false] rfl rfl hv
    · replace hv := hv.2 w2
      refine a_iload eX2_valueOf_103 rfl ?_
      refine a_sipush (v := 10000) eX2_valueOf_105 (by decide) ?_
      refine a_isub eX2_valueOf_108 ?_
      refine a_istore (vs' := [some (.ref (G.1 1)), some (.int v1), some (.int v2), some (.int v3), some (.int v4), some (.ref (G.1 c5)), some (.int v6), some (.int v7), some (.int v8), some (.int (v8 - 10000))]) eX2_valueOf_109 rfl (Nat.le_of_ble_eq_true rfl) rfl ?_
      refine a_aload_n eX2_valueOf_111 rfl ?_
      refine gX2_4 eX2_valueOf_112 fl_X2_26 ?_
      refine a_iload eX2_valueOf_115 rfl ?_
      refine a_iinc (v := 1) (vs' := [some (.ref (G.1 1)), some (.int v1), some (.int v2), some (.int v3), some (.int v4), some (.ref (G.1 c5)), some (.int (v6 + 1)), some (.int v7), some (.int v8), some (.int (v8 - 10000))]) eX2_valueOf_117 rfl rfl (by decide) rfl ?_
      refine a_iload eX2_valueOf_120 rfl ?_
      refine a_if_ne (tgt := 129) eX2_valueOf_122 (by decide) (fun w3 => ?_) (fun w3 => ?_)
      · replace hv := hv.2 w3
        refine a_iload eX2_valueOf_129 rfl ?_
        refine a_iconst (v := 1) eX2_valueOf_131 (by decide) ?_
        refine a_icmp_ne (tgt := 139) eX2_valueOf_132 (by decide) (fun w4 => ?_) (fun w4 => ?_)
        · replace hv := hv.2 w4
          refine a_iload eX2_valueOf_139 rfl ?_
          exact a_weak [true, true, true, true, true, true, true, true, false, false] rfl rfl hv
        · replace hv := hv.1 w4
          refine a_iload_n eX2_valueOf_135 rfl ?_
          refine a_goto (tgt := 141) eX2_valueOf_136 (by decide) ?_
          exact a_weak [true, true, true, true, true, true, true, true, false, false] rfl rfl hv
      · replace hv := hv.1 w3
        refine a_iload_n eX2_valueOf_125 rfl ?_
        refine a_goto (tgt := 141) eX2_valueOf_126 (by decide) ?_
        exact a_weak [true, true, true, true, true, true, true, true, false, false] rfl rfl hv
theorem bX2_valueOf_141 {l : Launch} {G : GT} {d : Nat} {M : Mem} {R : Option Value → Mem → Prop} {v1 : Int32} {v2 : Int32} {v3 : Int32} {v4 : Int32} {c5 : Nat} (hsc5 : shp c5 = (1, 96, [])) (hkc5 : inK c5 = true) {v6 : Int32} {v7 : Int32} {t0 : Int32} {t1 : Int32} (hv : vp_in t1 96 ∧ At l G (d + 4) mX2_valueOf 230 [some (.ref (G.1 1)), some (.int v1), some (.int v2), some (.int v3), some (.int v4), some (.ref (G.1 c5)), some (.int v6), some (.int v7), none, none] [] (um M 6 (ix t1) t0) R) : At l G (d + 4) mX2_valueOf 141 [some (.ref (G.1 1)), some (.int v1), some (.int v2), some (.int v3), some (.int v4), some (.ref (G.1 c5)), some (.int v6), some (.int v7), none, none] [.int t0, .int t1, .ref (G.1 6)] M R := by
  obtain ⟨h1, hv⟩ := hv
  refine a_iast eX2_valueOf_141 sA6 kA6 h1 ?_
  refine a_goto (tgt := 230) eX2_valueOf_142 (by decide) ?_
  exact a_weak [true, true, true, true, true, true, true, true, false, false] rfl rfl hv
theorem bX2_valueOf_145 {l : Launch} {G : GT} {d : Nat} {M : Mem} {R : Option Value → Mem → Prop} {v1 : Int32} {v2 : Int32} {v3 : Int32} {v4 : Int32} {c5 : Nat} (hsc5 : shp c5 = (1, 96, [])) (hkc5 : inK c5 = true) {v6 : Int32} {v7 : Int32} {v8 : Int32} (hv : (v8 = 20033 → (v6 ≤ 0 → At l G (d + 4) mX2_valueOf 187 [some (.ref (G.1 1)), some (.int v1), some (.int v2), some (.int v3), some (.int v4), some (.ref (G.1 c5)), some (.int v6), some (.int v7), some (.int v8), none] [] M R) ∧ (¬ (v6 ≤ 0) → vp_in (v6 - 1) 96 ∧ ((M 6 (ix (v6 - 1))) = 0 → At l G (d + 4) mX2_valueOf 183 [some (.ref (G.1 1)), some (.int v1), some (.int v2), some (.int v3), some (.int v4), some (.ref (G.1 c5)), some (.int v6), some (.int v7), none, none] [.int 1, .int (v6 - 1), .ref (G.1 6)] M R) ∧ (¬ ((M 6 (ix (v6 - 1))) = 0) → At l G (d + 4) mX2_valueOf 183 [some (.ref (G.1 1)), some (.int v1), some (.int v2), some (.int v3), some (.int v4), some (.ref (G.1 c5)), some (.int v6), some (.int v7), none, none] [.int 0, .int (v6 - 1), .ref (G.1 6)] M R))) ∧ (¬ (v8 = 20033) → At l G (d + 4) mX2_valueOf 187 [some (.ref (G.1 1)), some (.int v1), some (.int v2), some (.int v3), some (.int v4), some (.ref (G.1 c5)), some (.int v6), some (.int v7), some (.int v8), none] [] M R)) : At l G (d + 4) mX2_valueOf 145 [some (.ref (G.1 1)), some (.int v1), some (.int v2), some (.int v3), some (.int v4), some (.ref (G.1 c5)), some (.int v6), some (.int v7), some (.int v8), none] [] M R := by
  refine a_iload eX2_valueOf_145 rfl ?_
  refine a_sipush (v := 20033) eX2_valueOf_147 (by decide) ?_
  refine a_icmp_ne (tgt := 187) eX2_valueOf_150 (by decide) (fun w1 => ?_) (fun w1 => ?_)
  · replace hv := hv.2 w1
    exact a_weak [true, true, true, true, true, true, true, true, true, false] rfl rfl hv
  · replace hv := hv.1 w1
    refine a_iload eX2_valueOf_153 rfl ?_
    refine a_if_le (tgt := 187) eX2_valueOf_155 (by decide) (fun w2 => ?_) (fun w2 => ?_)
    · replace hv := hv.1 w2
      exact a_weak [true, true, true, true, true, true, true, true, true, false] rfl rfl hv
    · replace hv := hv.2 w2
      refine a_aload_n eX2_valueOf_158 rfl ?_
      refine gX2_4 eX2_valueOf_159 fl_X2_26 ?_
      refine a_iload eX2_valueOf_162 rfl ?_
      refine a_iconst (v := 1) eX2_valueOf_164 (by decide) ?_
      refine a_isub eX2_valueOf_165 ?_
      refine a_aload_n eX2_valueOf_166 rfl ?_
      refine gX2_4 eX2_valueOf_167 fl_X2_26 ?_
      refine a_iload eX2_valueOf_170 rfl ?_
      refine a_iconst (v := 1) eX2_valueOf_172 (by decide) ?_
      refine a_isub eX2_valueOf_173 ?_
      obtain ⟨h3, hv⟩ := hv
      refine a_iald eX2_valueOf_174 sA6 kA6 h3 ?_
      refine a_if_ne (tgt := 182) eX2_valueOf_175 (by decide) (fun w4 => ?_) (fun w4 => ?_)
      · replace hv := hv.2 w4
        refine a_iconst (v := 0) eX2_valueOf_182 (by decide) ?_
        exact a_weak [true, true, true, true, true, true, true, true, false, false] rfl rfl hv
      · replace hv := hv.1 w4
        refine a_iconst (v := 1) eX2_valueOf_178 (by decide) ?_
        refine a_goto (tgt := 183) eX2_valueOf_179 (by decide) ?_
        exact a_weak [true, true, true, true, true, true, true, true, false, false] rfl rfl hv
theorem bX2_valueOf_183 {l : Launch} {G : GT} {d : Nat} {M : Mem} {R : Option Value → Mem → Prop} {v1 : Int32} {v2 : Int32} {v3 : Int32} {v4 : Int32} {c5 : Nat} (hsc5 : shp c5 = (1, 96, [])) (hkc5 : inK c5 = true) {v6 : Int32} {v7 : Int32} {t0 : Int32} {t1 : Int32} (hv : vp_in t1 96 ∧ At l G (d + 4) mX2_valueOf 230 [some (.ref (G.1 1)), some (.int v1), some (.int v2), some (.int v3), some (.int v4), some (.ref (G.1 c5)), some (.int v6), some (.int v7), none, none] [] (um M 6 (ix t1) t0) R) : At l G (d + 4) mX2_valueOf 183 [some (.ref (G.1 1)), some (.int v1), some (.int v2), some (.int v3), some (.int v4), some (.ref (G.1 c5)), some (.int v6), some (.int v7), none, none] [.int t0, .int t1, .ref (G.1 6)] M R := by
  obtain ⟨h1, hv⟩ := hv
  refine a_iast eX2_valueOf_183 sA6 kA6 h1 ?_
  refine a_goto (tgt := 230) eX2_valueOf_184 (by decide) ?_
  exact a_weak [true, true, true, true, true, true, true, true, false, false] rfl rfl hv
theorem bX2_valueOf_187 {l : Launch} {G : GT} {d : Nat} {M : Mem} {R : Option Value → Mem → Prop} {v1 : Int32} {v2 : Int32} {v3 : Int32} {v4 : Int32} {c5 : Nat} (hsc5 : shp c5 = (1, 96, [])) (hkc5 : inK c5 = true) {v6 : Int32} {v7 : Int32} {v8 : Int32} (hv : (v6 ≤ 1 → At l G (d + 4) mX2_valueOf 230 [some (.ref (G.1 1)), some (.int v1), some (.int v2), some (.int v3), some (.int v4), some (.ref (G.1 c5)), some (.int v6), some (.int v7), none, none] [] M R) ∧ (¬ (v6 ≤ 1) → vp_in ((v6 + (-1)) - 1) 96 ∧ vp_in (v6 + (-1)) 96 ∧ Tr l G (d + 3) mX2_joined [.int (v8 - 20000), .int (M 6 (ix ((v6 + (-1)) - 1))), .int (M 6 (ix (v6 + (-1))))] M (kI fun q M' => At l G (d + 4) mX2_valueOf 229 [some (.ref (G.1 1)), some (.int v1), some (.int v2), some (.int v3), some (.int v4), some (.ref (G.1 c5)), some (.int (v6 + (-1))), some (.int v7), none, none] [.int q, .int ((v6 + (-1)) - 1), .ref (G.1 6)] M' R))) : At l G (d + 4) mX2_valueOf 187 [some (.ref (G.1 1)), some (.int v1), some (.int v2), some (.int v3), some (.int v4), some (.ref (G.1 c5)), some (.int v6), some (.int v7), some (.int v8), none] [] M R := by
  refine a_iload eX2_valueOf_187 rfl ?_
  refine a_iconst (v := 1) eX2_valueOf_189 (by decide) ?_
  refine a_icmp_le (tgt := 230) eX2_valueOf_190 (by decide) (fun w1 => ?_) (fun w1 => ?_)
  · replace hv := hv.1 w1
    exact a_weak [true, true, true, true, true, true, true, true, false, false] rfl rfl hv
  · replace hv := hv.2 w1
    refine a_iinc (v := (-1)) (vs' := [some (.ref (G.1 1)), some (.int v1), some (.int v2), some (.int v3), some (.int v4), some (.ref (G.1 c5)), some (.int (v6 + (-1))), some (.int v7), some (.int v8), none]) eX2_valueOf_193 rfl rfl (by decide) rfl ?_
    refine a_aload_n eX2_valueOf_196 rfl ?_
    refine gX2_4 eX2_valueOf_197 fl_X2_26 ?_
    refine a_iload eX2_valueOf_200 rfl ?_
    refine a_iconst (v := 1) eX2_valueOf_202 (by decide) ?_
    refine a_isub eX2_valueOf_203 ?_
    refine a_iload eX2_valueOf_204 rfl ?_
    refine a_sipush (v := 20000) eX2_valueOf_206 (by decide) ?_
    refine a_isub eX2_valueOf_209 ?_
    refine a_aload_n eX2_valueOf_210 rfl ?_
    refine gX2_4 eX2_valueOf_211 fl_X2_26 ?_
    refine a_iload eX2_valueOf_214 rfl ?_
    refine a_iconst (v := 1) eX2_valueOf_216 (by decide) ?_
    refine a_isub eX2_valueOf_217 ?_
    obtain ⟨h2, hv⟩ := hv
    refine a_iald eX2_valueOf_218 sA6 kA6 h2 ?_
    refine a_aload_n eX2_valueOf_219 rfl ?_
    refine gX2_4 eX2_valueOf_220 fl_X2_26 ?_
    refine a_iload eX2_valueOf_223 rfl ?_
    obtain ⟨h3, hv⟩ := hv
    refine a_iald eX2_valueOf_225 sA6 kA6 h3 ?_
    exact qX2_48 rfl eX2_valueOf_226 (Nat.le_of_ble_eq_true rfl) (tr_I [true, true, true, true, true, true, true, true, false, false] rfl rfl hv)
theorem bX2_valueOf_229 {l : Launch} {G : GT} {d : Nat} {M : Mem} {R : Option Value → Mem → Prop} {v1 : Int32} {v2 : Int32} {v3 : Int32} {v4 : Int32} {c5 : Nat} (hsc5 : shp c5 = (1, 96, [])) (hkc5 : inK c5 = true) {v6 : Int32} {v7 : Int32} {r : Int32} {t1 : Int32} (hv : vp_in t1 96 ∧ At l G (d + 4) mX2_valueOf 230 [some (.ref (G.1 1)), some (.int v1), some (.int v2), some (.int v3), some (.int v4), some (.ref (G.1 c5)), some (.int v6), some (.int v7), none, none] [] (um M 6 (ix t1) r) R) : At l G (d + 4) mX2_valueOf 229 [some (.ref (G.1 1)), some (.int v1), some (.int v2), some (.int v3), some (.int v4), some (.ref (G.1 c5)), some (.int v6), some (.int v7), none, none] [.int r, .int t1, .ref (G.1 6)] M R := by
  obtain ⟨h1, hv⟩ := hv
  refine a_iast eX2_valueOf_229 sA6 kA6 h1 ?_
  exact a_weak [true, true, true, true, true, true, true, true, false, false] rfl rfl hv
theorem bX2_valueOf_236 {l : Launch} {G : GT} {d : Nat} {M : Mem} {R : Option Value → Mem → Prop}  (hv : R (some (.int (M 6 0))) M) : At l G (d + 4) mX2_valueOf 236 [some (.ref (G.1 1)), none, none, none, none, none, none, none, none, none] [] M R := by
  refine a_aload_n eX2_valueOf_236 rfl ?_
  refine gX2_4 eX2_valueOf_237 fl_X2_26 ?_
  refine a_iconst (v := 0) eX2_valueOf_240 (by decide) ?_
  refine a_ialdc 0 eX2_valueOf_241 sA6 kA6 (by decide) (by decide) ?_
  exact a_iret eX2_valueOf_242 rfl rfl hv
theorem tX2_joined {l : Launch} {G : GT} {d : Nat} {M : Mem} {R : Option Value → Mem → Prop} {v0 : Int32} {v1 : Int32} {v2 : Int32} (hv : (v0 = 38 → (v1 = 0 → R (some (.int 0)) M) ∧ (¬ (v1 = 0) → (v2 = 0 → R (some (.int 0)) M) ∧ (¬ (v2 = 0) → R (some (.int 1)) M))) ∧ (v0 = 42 → R (some (.int (v1 * v2))) M) ∧ (v0 = 43 → R (some (.int (v1 + v2))) M) ∧ (v0 = 45 → R (some (.int (v1 - v2))) M) ∧ (v0 = 60 → (v2 ≤ v1 → R (some (.int 0)) M) ∧ (¬ (v2 ≤ v1) → R (some (.int 1)) M)) ∧ (v0 = 61 → (v1 = v2 → R (some (.int 1)) M) ∧ (¬ (v1 = v2) → R (some (.int 0)) M)) ∧ (v0 = 62 → (v1 ≤ v2 → R (some (.int 0)) M) ∧ (¬ (v1 ≤ v2) → R (some (.int 1)) M)) ∧ (v0 = 124 → (v1 = 0 → (v2 = 0 → R (some (.int 0)) M) ∧ (¬ (v2 = 0) → R (some (.int 1)) M)) ∧ (¬ (v1 = 0) → R (some (.int 1)) M)) ∧ (¬ v0 = 38 → ¬ v0 = 42 → ¬ v0 = 43 → ¬ v0 = 45 → ¬ v0 = 60 → ¬ v0 = 61 → ¬ v0 = 62 → ¬ v0 = 124 → (v2 = 0 → R (some (.int 0)) M) ∧ (¬ (v2 = 0) → ¬ v2 = 0 ∧ R (some (.int (v1 / v2))) M))) : Tr l G (d + 4) mX2_joined [.int v0, .int v1, .int v2] M R := by
  refine Tr.of rfl (Nat.le_of_ble_eq_true rfl) (vs := [some (.int v0), some (.int v1), some (.int v2)]) rfl ?_
  refine a_iload_n eX2_joined_0 rfl ?_
  by_cases w3 : v0 = 38
  · refine a_lsw (off := 89) (tgt := 90) eX2_joined_1 (by decide) (by rw [w3]; try rfl) (by decide) ?_
    replace hv := hv.1 w3
    refine a_iload_n eX2_joined_90 rfl ?_
    refine a_if_eq (tgt := 102) eX2_joined_91 (by decide) (fun w1 => ?_) (fun w1 => ?_)
    · replace hv := hv.1 w1
      refine a_iconst (v := 0) eX2_joined_102 (by decide) ?_
      exact a_iret eX2_joined_103 rfl rfl hv
    · replace hv := hv.2 w1
      refine a_iload_n eX2_joined_94 rfl ?_
      refine a_if_eq (tgt := 102) eX2_joined_95 (by decide) (fun w2 => ?_) (fun w2 => ?_)
      · replace hv := hv.1 w2
        refine a_iconst (v := 0) eX2_joined_102 (by decide) ?_
        exact a_iret eX2_joined_103 rfl rfl hv
      · replace hv := hv.2 w2
        refine a_iconst (v := 1) eX2_joined_98 (by decide) ?_
        refine a_goto (tgt := 103) eX2_joined_99 (by decide) ?_
        exact a_iret eX2_joined_103 rfl rfl hv
  by_cases w4 : v0 = 42
  · refine a_lsw (off := 144) (tgt := 145) eX2_joined_1 (by decide) (by rw [w4]; try rfl) (by decide) ?_
    replace hv := hv.2.1 w4
    refine a_iload_n eX2_joined_145 rfl ?_
    refine a_iload_n eX2_joined_146 rfl ?_
    refine a_imul eX2_joined_147 ?_
    exact a_iret eX2_joined_148 rfl rfl hv
  by_cases w5 : v0 = 43
  · refine a_lsw (off := 136) (tgt := 137) eX2_joined_1 (by decide) (by rw [w5]; try rfl) (by decide) ?_
    replace hv := hv.2.2.1 w5
    refine a_iload_n eX2_joined_137 rfl ?_
    refine a_iload_n eX2_joined_138 rfl ?_
    refine a_iadd eX2_joined_139 ?_
    exact a_iret eX2_joined_140 rfl rfl hv
  by_cases w6 : v0 = 45
  · refine a_lsw (off := 140) (tgt := 141) eX2_joined_1 (by decide) (by rw [w6]; try rfl) (by decide) ?_
    replace hv := hv.2.2.2.1 w6
    refine a_iload_n eX2_joined_141 rfl ?_
    refine a_iload_n eX2_joined_142 rfl ?_
    refine a_isub eX2_joined_143 ?_
    exact a_iret eX2_joined_144 rfl rfl hv
  by_cases w8 : v0 = 60
  · refine a_lsw (off := 103) (tgt := 104) eX2_joined_1 (by decide) (by rw [w8]; try rfl) (by decide) ?_
    replace hv := hv.2.2.2.2.1 w8
    refine a_iload_n eX2_joined_104 rfl ?_
    refine a_iload_n eX2_joined_105 rfl ?_
    refine a_icmp_ge (tgt := 113) eX2_joined_106 (by decide) (fun w7 => ?_) (fun w7 => ?_)
    · replace hv := hv.1 w7
      refine a_iconst (v := 0) eX2_joined_113 (by decide) ?_
      exact a_iret eX2_joined_114 rfl rfl hv
    · replace hv := hv.2 w7
      refine a_iconst (v := 1) eX2_joined_109 (by decide) ?_
      refine a_goto (tgt := 114) eX2_joined_110 (by decide) ?_
      exact a_iret eX2_joined_114 rfl rfl hv
  by_cases w10 : v0 = 61
  · refine a_lsw (off := 114) (tgt := 115) eX2_joined_1 (by decide) (by rw [w10]; try rfl) (by decide) ?_
    replace hv := hv.2.2.2.2.2.1 w10
    refine a_iload_n eX2_joined_115 rfl ?_
    refine a_iload_n eX2_joined_116 rfl ?_
    refine a_icmp_ne (tgt := 124) eX2_joined_117 (by decide) (fun w9 => ?_) (fun w9 => ?_)
    · replace hv := hv.2 w9
      refine a_iconst (v := 0) eX2_joined_124 (by decide) ?_
      exact a_iret eX2_joined_125 rfl rfl hv
    · replace hv := hv.1 w9
      refine a_iconst (v := 1) eX2_joined_120 (by decide) ?_
      refine a_goto (tgt := 125) eX2_joined_121 (by decide) ?_
      exact a_iret eX2_joined_125 rfl rfl hv
  by_cases w12 : v0 = 62
  · refine a_lsw (off := 125) (tgt := 126) eX2_joined_1 (by decide) (by rw [w12]; try rfl) (by decide) ?_
    replace hv := hv.2.2.2.2.2.2.1 w12
    refine a_iload_n eX2_joined_126 rfl ?_
    refine a_iload_n eX2_joined_127 rfl ?_
    refine a_icmp_le (tgt := 135) eX2_joined_128 (by decide) (fun w11 => ?_) (fun w11 => ?_)
    · replace hv := hv.1 w11
      refine a_iconst (v := 0) eX2_joined_135 (by decide) ?_
      exact a_iret eX2_joined_136 rfl rfl hv
    · replace hv := hv.2 w11
      refine a_iconst (v := 1) eX2_joined_131 (by decide) ?_
      refine a_goto (tgt := 136) eX2_joined_132 (by decide) ?_
      exact a_iret eX2_joined_136 rfl rfl hv
  by_cases w15 : v0 = 124
  · refine a_lsw (off := 75) (tgt := 76) eX2_joined_1 (by decide) (by rw [w15]; try rfl) (by decide) ?_
    replace hv := hv.2.2.2.2.2.2.2.1 w15
    refine a_iload_n eX2_joined_76 rfl ?_
    refine a_if_ne (tgt := 84) eX2_joined_77 (by decide) (fun w13 => ?_) (fun w13 => ?_)
    · replace hv := hv.2 w13
      refine a_iconst (v := 1) eX2_joined_84 (by decide) ?_
      refine a_goto (tgt := 89) eX2_joined_85 (by decide) ?_
      exact a_iret eX2_joined_89 rfl rfl hv
    · replace hv := hv.1 w13
      refine a_iload_n eX2_joined_80 rfl ?_
      refine a_if_eq (tgt := 88) eX2_joined_81 (by decide) (fun w14 => ?_) (fun w14 => ?_)
      · replace hv := hv.1 w14
        refine a_iconst (v := 0) eX2_joined_88 (by decide) ?_
        exact a_iret eX2_joined_89 rfl rfl hv
      · replace hv := hv.2 w14
        refine a_iconst (v := 1) eX2_joined_84 (by decide) ?_
        refine a_goto (tgt := 89) eX2_joined_85 (by decide) ?_
        exact a_iret eX2_joined_89 rfl rfl hv
  refine a_lsw (off := 148) (tgt := 149) eX2_joined_1 (by decide) (by rw [lv_osw w3 (by decide)]; rw [lv_osw w4 (by decide)]; rw [lv_osw w5 (by decide)]; rw [lv_osw w6 (by decide)]; rw [lv_osw w8 (by decide)]; rw [lv_osw w10 (by decide)]; rw [lv_osw w12 (by decide)]; rw [lv_osw w15 (by decide)]; try rfl) (by decide) ?_
  replace hv := hv.2.2.2.2.2.2.2.2 w3 w4 w5 w6 w8 w10 w12 w15
  refine a_iload_n eX2_joined_149 rfl ?_
  refine a_if_ne (tgt := 157) eX2_joined_150 (by decide) (fun w16 => ?_) (fun w16 => ?_)
  · replace hv := hv.2 w16
    refine a_iload_n eX2_joined_157 rfl ?_
    refine a_iload_n eX2_joined_158 rfl ?_
    obtain ⟨h17, hv⟩ := hv
    refine a_idiv eX2_joined_159 h17 ?_
    exact a_iret eX2_joined_160 rfl rfl hv
  · replace hv := hv.1 w16
    refine a_iconst (v := 0) eX2_joined_153 (by decide) ?_
    refine a_goto (tgt := 160) eX2_joined_154 (by decide) ?_
    exact a_iret eX2_joined_160 rfl rfl hv
theorem tX3_hasPlaces {l : Launch} {G : GT} {d : Nat} {M : Mem} {R : Option Value → Mem → Prop} {b : Nat} (hb : IsSh b) {v1 : Int32} {v2 : Int32} (hv : (v1 < 0 → R (some (.int 0)) M) ∧ (¬ (v1 < 0) → (v2 < 0 → R (some (.int 0)) M) ∧ (¬ (v2 < 0) → ((M b 1) < v1 → R (some (.int 0)) M) ∧ (¬ ((M b 1) < v1) → (((M b 1) - v1) < v2 → R (some (.int 0)) M) ∧ (¬ (((M b 1) - v1) < v2) → R (some (.int 1)) M))))) : Tr l G (d + 4) mX3_hasPlaces [.ref (G.1 b), .int v1, .int v2] M R := by
  refine Tr.of rfl (Nat.le_of_ble_eq_true rfl) (vs := [some (.ref (G.1 b)), some (.int v1), some (.int v2)]) rfl ?_
  refine a_iload_n eX3_hasPlaces_0 rfl ?_
  refine a_if_lt (tgt := 30) eX3_hasPlaces_1 (by decide) (fun w1 => ?_) (fun w1 => ?_)
  · replace hv := hv.1 w1
    refine a_iconst (v := 0) eX3_hasPlaces_30 (by decide) ?_
    exact a_iret eX3_hasPlaces_31 rfl rfl hv
  · replace hv := hv.2 w1
    refine a_iload_n eX3_hasPlaces_4 rfl ?_
    refine a_if_lt (tgt := 30) eX3_hasPlaces_5 (by decide) (fun w2 => ?_) (fun w2 => ?_)
    · replace hv := hv.1 w2
      refine a_iconst (v := 0) eX3_hasPlaces_30 (by decide) ?_
      exact a_iret eX3_hasPlaces_31 rfl rfl hv
    · replace hv := hv.2 w2
      refine a_iload_n eX3_hasPlaces_8 rfl ?_
      refine a_aload_n eX3_hasPlaces_9 rfl ?_
      refine gX3_1 hb eX3_hasPlaces_10 fl_X3_19 ?_
      refine a_icmp_gt (tgt := 30) eX3_hasPlaces_13 (by decide) (fun w3 => ?_) (fun w3 => ?_)
      · replace hv := hv.1 w3
        refine a_iconst (v := 0) eX3_hasPlaces_30 (by decide) ?_
        exact a_iret eX3_hasPlaces_31 rfl rfl hv
      · replace hv := hv.2 w3
        refine a_iload_n eX3_hasPlaces_16 rfl ?_
        refine a_aload_n eX3_hasPlaces_17 rfl ?_
        refine gX3_1 hb eX3_hasPlaces_18 fl_X3_19 ?_
        refine a_iload_n eX3_hasPlaces_21 rfl ?_
        refine a_isub eX3_hasPlaces_22 ?_
        refine a_icmp_gt (tgt := 30) eX3_hasPlaces_23 (by decide) (fun w4 => ?_) (fun w4 => ?_)
        · replace hv := hv.1 w4
          refine a_iconst (v := 0) eX3_hasPlaces_30 (by decide) ?_
          exact a_iret eX3_hasPlaces_31 rfl rfl hv
        · replace hv := hv.2 w4
          refine a_iconst (v := 1) eX3_hasPlaces_26 (by decide) ?_
          refine a_goto (tgt := 31) eX3_hasPlaces_27 (by decide) ?_
          exact a_iret eX3_hasPlaces_31 rfl rfl hv
theorem tX3_become {l : Launch} {G : GT} {d : Nat} {M : Mem} {R : Option Value → Mem → Prop} {b : Nat} (hb : IsSh b) {v1 : Int32} {v2 : Int32} (hv : At l G (d + 4) mX3_become 12 [some (.ref (G.1 b)), none, none, some (.int 0)] [] (um (um M b 0 v1) b 1 v2) R) : Tr l G (d + 4) mX3_become [.ref (G.1 b), .int v1, .int v2] M R := by
  refine Tr.of rfl (Nat.le_of_ble_eq_true rfl) (vs := [some (.ref (G.1 b)), some (.int v1), some (.int v2), none]) rfl ?_
  refine a_aload_n eX3_become_0 rfl ?_
  refine a_iload_n eX3_become_1 rfl ?_
  refine pX3_0 hb eX3_become_2 fl_X3_9 ?_
  refine a_aload_n eX3_become_5 rfl ?_
  refine a_iload_n eX3_become_6 rfl ?_
  refine pX3_1 hb eX3_become_7 fl_X3_19 ?_
  refine a_iconst (v := 0) eX3_become_10 (by decide) ?_
  refine a_istore_n (vs' := [some (.ref (G.1 b)), some (.int v1), some (.int v2), some (.int 0)]) eX3_become_11 rfl (Nat.le_of_ble_eq_true rfl) rfl ?_
  exact a_weak [true, false, false, true] rfl rfl hv
theorem bX3_become_12 {l : Launch} {G : GT} {d : Nat} {M : Mem} {R : Option Value → Mem → Prop} {b : Nat} (hb : IsSh b) {v3 : Int32} (hv : (24 ≤ v3 → R none M) ∧ (¬ (24 ≤ v3) → vp_in v3 24 ∧ At l G (d + 4) mX3_become 12 [some (.ref (G.1 b)), none, none, some (.int (v3 + 1))] [] (um M (b + 1) (ix v3) 0) R)) : At l G (d + 4) mX3_become 12 [some (.ref (G.1 b)), none, none, some (.int v3)] [] M R := by
  refine a_iload_n eX3_become_12 rfl ?_
  refine a_bipush (v := 24) eX3_become_13 (by decide) ?_
  refine a_icmp_ge (tgt := 31) eX3_become_15 (by decide) (fun w1 => ?_) (fun w1 => ?_)
  · replace hv := hv.1 w1
    exact a_vret eX3_become_31 rfl hv
  · replace hv := hv.2 w1
    refine a_aload_n eX3_become_18 rfl ?_
    refine gX3_2 hb eX3_become_19 fl_X3_15 ?_
    refine a_iload_n eX3_become_22 rfl ?_
    refine a_iconst (v := 0) eX3_become_23 (by decide) ?_
    obtain ⟨h2, hv⟩ := hv
    refine a_iast eX3_become_24 (sh_1 hb) (sh_in1 hb) h2 ?_
    refine a_iinc (v := 1) (vs' := [some (.ref (G.1 b)), none, none, some (.int (v3 + 1))]) eX3_become_25 rfl rfl (by decide) rfl ?_
    refine a_goto (tgt := 12) eX3_become_28 (by decide) ?_
    exact a_weak [true, false, false, true] rfl rfl hv
theorem tX3_take {l : Launch} {G : GT} {d : Nat} {M : Mem} {R : Option Value → Mem → Prop} {b : Nat} (hb : IsSh b) {a1 : Nat} (ha1 : IsSh a1) (hv : ∀ M1 : Mem, M1 = ua (um (um M b 0 (M a1 0)) b 1 ((um M b 0 (M a1 0)) a1 1)) (b + 1) (va_cpy ((um (um M b 0 (M a1 0)) b 1 ((um M b 0 (M a1 0)) a1 1)) (a1 + 1)) ((um (um M b 0 (M a1 0)) b 1 ((um M b 0 (M a1 0)) a1 1)) (b + 1)) (ix 0) (ix 0) (ix 24)) → R none M1) : Tr l G (d + 4) mX3_take [.ref (G.1 b), .ref (G.1 a1)] M R := by
  refine Tr.of rfl (Nat.le_of_ble_eq_true rfl) (vs := [some (.ref (G.1 b)), some (.ref (G.1 a1))]) rfl ?_
  refine a_aload_n eX3_take_0 rfl ?_
  refine a_aload_n eX3_take_1 rfl ?_
  refine gX3_0 ha1 eX3_take_2 fl_X3_9 ?_
  refine pX3_0 hb eX3_take_5 fl_X3_9 ?_
  refine a_aload_n eX3_take_8 rfl ?_
  refine a_aload_n eX3_take_9 rfl ?_
  refine gX3_1 ha1 eX3_take_10 fl_X3_19 ?_
  refine pX3_1 hb eX3_take_13 fl_X3_19 ?_
  refine a_aload_n eX3_take_16 rfl ?_
  refine gX3_2 ha1 eX3_take_17 fl_X3_15 ?_
  refine a_iconst (v := 0) eX3_take_20 (by decide) ?_
  refine a_aload_n eX3_take_21 rfl ?_
  refine gX3_2 hb eX3_take_22 fl_X3_15 ?_
  refine a_iconst (v := 0) eX3_take_25 (by decide) ?_
  refine a_bipush (v := 24) eX3_take_26 (by decide) ?_
  refine a_copy eX3_take_28 ml_X3_27 nmA stA inA (sh_1 ha1) (sh_in1 ha1) (sh_1 hb) (sh_in1 hb) (by decide) (by decide) (by decide) (by decide) (by decide) (by omega) (Nat.le_of_ble_eq_true rfl) ?_
  refine a_nm (fun M1 eM1 => ?_)
  replace hv := hv M1 eM1
  exact a_vret eX3_take_31 rfl hv
theorem tX5_add {l : Launch} {G : GT} {d : Nat} {M : Mem} {R : Option Value → Mem → Prop} {v1 : Int32} (hv : At l G (d + 4) mX5_add 3 [some (.ref (G.1 21)), some (.int v1), some (.int 24)] [] M R) : Tr l G (d + 4) mX5_add [.ref (G.1 21), .int v1] M R := by
  refine Tr.of rfl (Nat.le_of_ble_eq_true rfl) (vs := [some (.ref (G.1 21)), some (.int v1), none]) rfl ?_
  refine a_bipush (v := 24) eX5_add_0 (by decide) ?_
  refine a_istore_n (vs' := [some (.ref (G.1 21)), some (.int v1), some (.int 24)]) eX5_add_2 rfl (Nat.le_of_ble_eq_true rfl) rfl ?_
  exact a_weak [true, true, true] rfl rfl hv
theorem bX5_add_3 {l : Launch} {G : GT} {d : Nat} {M : Mem} {R : Option Value → Mem → Prop} {v1 : Int32} {v2 : Int32} (hv : (v2 < 0 → R none M) ∧ (¬ (v2 < 0) → (96 ≤ (M 21 1) → R none M) ∧ (¬ (96 ≤ (M 21 1)) → vp_in (M 21 1) 96 ∧ ∀ M4 : Mem, M4 = um M 22 (ix (M 21 1)) (((v1.toUInt32 >>> (v2.toUInt32 &&& Int32.toUInt32 31)).toInt32) &&& 255) → At l G (d + 4) mX5_add 3 [some (.ref (G.1 21)), some (.int v1), some (.int (v2 + (-8)))] [] (um M4 21 1 ((M4 21 1) + 1)) R))) : At l G (d + 4) mX5_add 3 [some (.ref (G.1 21)), some (.int v1), some (.int v2)] [] M R := by
  refine a_iload_n eX5_add_3 rfl ?_
  refine a_if_lt (tgt := 48) eX5_add_4 (by decide) (fun w1 => ?_) (fun w1 => ?_)
  · replace hv := hv.1 w1
    exact a_vret eX5_add_48 rfl hv
  · replace hv := hv.2 w1
    refine a_aload_n eX5_add_7 rfl ?_
    refine gX5_1 eX5_add_8 fl_X5_18 ?_
    refine a_bipush (v := 96) eX5_add_11 (by decide) ?_
    refine a_icmp_ge (tgt := 48) eX5_add_13 (by decide) (fun w2 => ?_) (fun w2 => ?_)
    · replace hv := hv.1 w2
      exact a_vret eX5_add_48 rfl hv
    · replace hv := hv.2 w2
      refine a_aload_n eX5_add_16 rfl ?_
      refine gX5_0 eX5_add_17 fl_X5_9 ?_
      refine a_aload_n eX5_add_20 rfl ?_
      refine gX5_1 eX5_add_21 fl_X5_18 ?_
      refine a_iload_n eX5_add_24 rfl ?_
      refine a_iload_n eX5_add_25 rfl ?_
      refine a_iushr eX5_add_26 ?_
      refine a_sipush (v := 255) eX5_add_27 (by decide) ?_
      refine a_iand eX5_add_30 ?_
      obtain ⟨h3, hv⟩ := hv
      refine a_iast eX5_add_31 sA22 kA22 h3 ?_
      refine a_nm (fun M4 eM4 => ?_)
      replace hv := hv M4 eM4
      refine a_aload_n eX5_add_32 rfl ?_
      refine a_dup eX5_add_33 rfl ?_
      refine gX5_1 eX5_add_34 fl_X5_18 ?_
      refine a_iconst (v := 1) eX5_add_37 (by decide) ?_
      refine a_iadd eX5_add_38 ?_
      refine pX5_1 eX5_add_39 fl_X5_18 ?_
      refine a_iinc (v := (-8)) (vs' := [some (.ref (G.1 21)), some (.int v1), some (.int (v2 + (-8)))]) eX5_add_42 rfl rfl (by decide) rfl ?_
      refine a_goto (tgt := 3) eX5_add_45 (by decide) ?_
      exact a_weak [true, true, true] rfl rfl hv
theorem tX5_faultOfText {l : Launch} {G : GT} {d : Nat} {M : Mem} {R : Option Value → Mem → Prop}  (hv : Tr l G (d + 3) mX5_step [.ref (G.1 21)] (um (um (um (um M 21 3 0) 21 4 0) 21 7 0) 21 8 0) (kV fun M' => At l G (d + 4) mX5_faultOfText 24 [some (.ref (G.1 21))] [] M' R)) : Tr l G (d + 4) mX5_faultOfText [.ref (G.1 21)] M R := by
  refine Tr.of rfl (Nat.le_of_ble_eq_true rfl) (vs := [some (.ref (G.1 21))]) rfl ?_
  refine a_aload_n eX5_faultOfText_0 rfl ?_
  refine a_iconst (v := 0) eX5_faultOfText_1 (by decide) ?_
  refine pX5_3 eX5_faultOfText_2 fl_X5_22 ?_
  refine a_aload_n eX5_faultOfText_5 rfl ?_
  refine a_iconst (v := 0) eX5_faultOfText_6 (by decide) ?_
  refine pX5_4 eX5_faultOfText_7 fl_X5_25 ?_
  refine a_aload_n eX5_faultOfText_10 rfl ?_
  refine a_iconst (v := 0) eX5_faultOfText_11 (by decide) ?_
  refine pX5_7 eX5_faultOfText_12 fl_X5_28 ?_
  refine a_aload_n eX5_faultOfText_15 rfl ?_
  refine a_iconst (v := 0) eX5_faultOfText_16 (by decide) ?_
  refine pX5_8 eX5_faultOfText_17 fl_X5_31 ?_
  refine a_aload_n eX5_faultOfText_20 rfl ?_
  exact qX5_34 rfl eX5_faultOfText_21 (Nat.le_of_ble_eq_true rfl) (tr_V [true] rfl rfl hv)
theorem bX5_faultOfText_24 {l : Launch} {G : GT} {d : Nat} {M : Mem} {R : Option Value → Mem → Prop}  (hv : Tr l G (d + 3) mX5_keyRead [.ref (G.1 21)] M (kI fun q M' => At l G (d + 4) mX5_faultOfText 29 [some (.ref (G.1 21))] [.int q, .ref (G.1 21)] M' R)) : At l G (d + 4) mX5_faultOfText 24 [some (.ref (G.1 21))] [] M R := by
  refine a_aload_n eX5_faultOfText_24 rfl ?_
  refine a_aload_n eX5_faultOfText_25 rfl ?_
  exact qX5_37 rfl eX5_faultOfText_26 (Nat.le_of_ble_eq_true rfl) (tr_I [true] rfl rfl hv)
theorem bX5_faultOfText_29 {l : Launch} {G : GT} {d : Nat} {M : Mem} {R : Option Value → Mem → Prop} {r : Int32} (hv : (((um M 21 5 r) 21 5) = (-1000000005) → R (some (.int ((um M 21 5 r) 21 6))) (um M 21 5 r)) ∧ (¬ (((um M 21 5 r) 21 5) = (-1000000005)) → Tr l G (d + 3) mX5_step [.ref (G.1 21)] (um M 21 5 r) (kV fun M' => At l G (d + 4) mX5_faultOfText 50 [some (.ref (G.1 21))] [] M' R))) : At l G (d + 4) mX5_faultOfText 29 [some (.ref (G.1 21))] [.int r, .ref (G.1 21)] M R := by
  refine pX5_5 eX5_faultOfText_29 fl_X5_41 ?_
  refine a_aload_n eX5_faultOfText_32 rfl ?_
  refine gX5_5 eX5_faultOfText_33 fl_X5_41 ?_
  refine a_ldc eX5_faultOfText_36 kc_X5_44 ?_
  refine a_icmp_ne (tgt := 46) eX5_faultOfText_38 (by decide) (fun w1 => ?_) (fun w1 => ?_)
  · replace hv := hv.2 w1
    refine a_aload_n eX5_faultOfText_46 rfl ?_
    exact qX5_34 rfl eX5_faultOfText_47 (Nat.le_of_ble_eq_true rfl) (tr_V [true] rfl rfl hv)
  · replace hv := hv.1 w1
    refine a_aload_n eX5_faultOfText_41 rfl ?_
    refine gX5_6 eX5_faultOfText_42 fl_X5_45 ?_
    exact a_iret eX5_faultOfText_45 rfl rfl hv
theorem bX5_faultOfText_50 {l : Launch} {G : GT} {d : Nat} {M : Mem} {R : Option Value → Mem → Prop}  (hv : Tr l G (d + 3) mX5_part [.ref (G.1 21), .int 0, .int 0, .int 0] M (kI fun q M' => At l G (d + 4) mX5_faultOfText 57 [some (.ref (G.1 21))] [.int q] M' R)) : At l G (d + 4) mX5_faultOfText 50 [some (.ref (G.1 21))] [] M R := by
  refine a_aload_n eX5_faultOfText_50 rfl ?_
  refine a_iconst (v := 0) eX5_faultOfText_51 (by decide) ?_
  refine a_iconst (v := 0) eX5_faultOfText_52 (by decide) ?_
  refine a_iconst (v := 0) eX5_faultOfText_53 (by decide) ?_
  exact qX5_48 rfl eX5_faultOfText_54 (Nat.le_of_ble_eq_true rfl) (tr_I [true] rfl rfl hv)
theorem bX5_faultOfText_57 {l : Launch} {G : GT} {d : Nat} {M : Mem} {R : Option Value → Mem → Prop} {r : Int32} (hv : (r = 0 → R (some (.int (M 21 6))) M) ∧ (¬ (r = 0) → ((M 21 8) = 0 → R (some (.int (-1000000005))) M) ∧ (¬ ((M 21 8) = 0) → R (some (.int (M 21 6))) M))) : At l G (d + 4) mX5_faultOfText 57 [some (.ref (G.1 21))] [.int r] M R := by
  refine a_if_eq (tgt := 72) eX5_faultOfText_57 (by decide) (fun w1 => ?_) (fun w1 => ?_)
  · replace hv := hv.1 w1
    refine a_aload_n eX5_faultOfText_72 rfl ?_
    refine gX5_6 eX5_faultOfText_73 fl_X5_45 ?_
    exact a_iret eX5_faultOfText_76 rfl rfl hv
  · replace hv := hv.2 w1
    refine a_aload_n eX5_faultOfText_60 rfl ?_
    refine gX5_8 eX5_faultOfText_61 fl_X5_31 ?_
    refine a_if_ne (tgt := 72) eX5_faultOfText_64 (by decide) (fun w2 => ?_) (fun w2 => ?_)
    · replace hv := hv.2 w2
      refine a_aload_n eX5_faultOfText_72 rfl ?_
      refine gX5_6 eX5_faultOfText_73 fl_X5_45 ?_
      exact a_iret eX5_faultOfText_76 rfl rfl hv
    · replace hv := hv.1 w2
      refine a_ldc eX5_faultOfText_67 kc_X5_44 ?_
      refine a_goto (tgt := 76) eX5_faultOfText_69 (by decide) ?_
      exact a_iret eX5_faultOfText_76 rfl rfl hv
theorem tX5_step {l : Launch} {G : GT} {d : Nat} {M : Mem} {R : Option Value → Mem → Prop}  (hv : ((M 21 8) = 1 → At l G (d + 4) mX5_step 35 [some (.ref (G.1 21)), some (.int 1), some (.int (M 21 7))] [] (um M 21 6 (M 21 7)) R) ∧ (¬ ((M 21 8) = 1) → ((M 21 8) = 2 → At l G (d + 4) mX5_step 35 [some (.ref (G.1 21)), some (.int 1), some (.int (M 21 7))] [] (um M 21 6 (M 21 7)) R) ∧ (¬ ((M 21 8) = 2) → At l G (d + 4) mX5_step 35 [some (.ref (G.1 21)), some (.int 0), some (.int (M 21 7))] [] (um M 21 6 (M 21 7)) R))) : Tr l G (d + 4) mX5_step [.ref (G.1 21)] M R := by
  refine Tr.of rfl (Nat.le_of_ble_eq_true rfl) (vs := [some (.ref (G.1 21)), none, none]) rfl ?_
  refine a_aload_n eX5_step_0 rfl ?_
  refine gX5_8 eX5_step_1 fl_X5_31 ?_
  refine a_iconst (v := 1) eX5_step_4 (by decide) ?_
  refine a_icmp_eq (tgt := 16) eX5_step_5 (by decide) (fun w1 => ?_) (fun w1 => ?_)
  · replace hv := hv.1 w1
    refine a_iconst (v := 1) eX5_step_16 (by decide) ?_
    refine a_goto (tgt := 21) eX5_step_17 (by decide) ?_
    refine a_istore_n (vs' := [some (.ref (G.1 21)), some (.int 1), none]) eX5_step_21 rfl (Nat.le_of_ble_eq_true rfl) rfl ?_
    refine a_aload_n eX5_step_22 rfl ?_
    refine gX5_7 eX5_step_23 fl_X5_28 ?_
    refine a_istore_n (vs' := [some (.ref (G.1 21)), some (.int 1), some (.int (M 21 7))]) eX5_step_26 rfl (Nat.le_of_ble_eq_true rfl) rfl ?_
    refine a_aload_n eX5_step_27 rfl ?_
    refine a_aload_n eX5_step_28 rfl ?_
    refine gX5_7 eX5_step_29 fl_X5_28 ?_
    refine pX5_6 eX5_step_32 fl_X5_45 ?_
    exact a_weak [true, true, true] rfl rfl hv
  · replace hv := hv.2 w1
    refine a_aload_n eX5_step_8 rfl ?_
    refine gX5_8 eX5_step_9 fl_X5_31 ?_
    refine a_iconst (v := 2) eX5_step_12 (by decide) ?_
    refine a_icmp_ne (tgt := 20) eX5_step_13 (by decide) (fun w2 => ?_) (fun w2 => ?_)
    · replace hv := hv.2 w2
      refine a_iconst (v := 0) eX5_step_20 (by decide) ?_
      refine a_istore_n (vs' := [some (.ref (G.1 21)), some (.int 0), none]) eX5_step_21 rfl (Nat.le_of_ble_eq_true rfl) rfl ?_
      refine a_aload_n eX5_step_22 rfl ?_
      refine gX5_7 eX5_step_23 fl_X5_28 ?_
      refine a_istore_n (vs' := [some (.ref (G.1 21)), some (.int 0), some (.int (M 21 7))]) eX5_step_26 rfl (Nat.le_of_ble_eq_true rfl) rfl ?_
      refine a_aload_n eX5_step_27 rfl ?_
      refine a_aload_n eX5_step_28 rfl ?_
      refine gX5_7 eX5_step_29 fl_X5_28 ?_
      refine pX5_6 eX5_step_32 fl_X5_45 ?_
      exact a_weak [true, true, true] rfl rfl hv
    · replace hv := hv.1 w2
      refine a_iconst (v := 1) eX5_step_16 (by decide) ?_
      refine a_goto (tgt := 21) eX5_step_17 (by decide) ?_
      refine a_istore_n (vs' := [some (.ref (G.1 21)), some (.int 1), none]) eX5_step_21 rfl (Nat.le_of_ble_eq_true rfl) rfl ?_
      refine a_aload_n eX5_step_22 rfl ?_
      refine gX5_7 eX5_step_23 fl_X5_28 ?_
      refine a_istore_n (vs' := [some (.ref (G.1 21)), some (.int 1), some (.int (M 21 7))]) eX5_step_26 rfl (Nat.le_of_ble_eq_true rfl) rfl ?_
      refine a_aload_n eX5_step_27 rfl ?_
      refine a_aload_n eX5_step_28 rfl ?_
      refine gX5_7 eX5_step_29 fl_X5_28 ?_
      refine pX5_6 eX5_step_32 fl_X5_45 ?_
      exact a_weak [true, true, true] rfl rfl hv
theorem bX5_step_35 {l : Launch} {G : GT} {d : Nat} {M : Mem} {R : Option Value → Mem → Prop} {v1 : Int32} {v2 : Int32} (hv : ((M 21 1) ≤ (M 21 6) → Tr l G (d + 3) mX5_sortAt [.ref (G.1 21), .int ((um M 21 7 (M 21 6)) 21 6)] (um M 21 7 (M 21 6)) (kI fun q M' => At l G (d + 4) mX5_step 90 [some (.ref (G.1 21)), some (.int v1), some (.int v2)] [.int q, .ref (G.1 21)] M' R)) ∧ (¬ ((M 21 1) ≤ (M 21 6)) → vp_in (M 21 6) 96 ∧ ((M 22 (ix (M 21 6))) = 32 → At l G (d + 4) mX5_step 35 [some (.ref (G.1 21)), some (.int v1), some (.int v2)] [] (um M 21 6 ((M 21 6) + 1)) R) ∧ (¬ ((M 22 (ix (M 21 6))) = 32) → Tr l G (d + 3) mX5_sortAt [.ref (G.1 21), .int ((um M 21 7 (M 21 6)) 21 6)] (um M 21 7 (M 21 6)) (kI fun q M' => At l G (d + 4) mX5_step 90 [some (.ref (G.1 21)), some (.int v1), some (.int v2)] [.int q, .ref (G.1 21)] M' R)))) : At l G (d + 4) mX5_step 35 [some (.ref (G.1 21)), some (.int v1), some (.int v2)] [] M R := by
  refine a_aload_n eX5_step_35 rfl ?_
  refine gX5_6 eX5_step_36 fl_X5_45 ?_
  refine a_aload_n eX5_step_39 rfl ?_
  refine gX5_1 eX5_step_40 fl_X5_18 ?_
  refine a_icmp_ge (tgt := 73) eX5_step_43 (by decide) (fun w1 => ?_) (fun w1 => ?_)
  · replace hv := hv.1 w1
    refine a_aload_n eX5_step_73 rfl ?_
    refine a_aload_n eX5_step_74 rfl ?_
    refine gX5_6 eX5_step_75 fl_X5_45 ?_
    refine pX5_7 eX5_step_78 fl_X5_28 ?_
    refine a_aload_n eX5_step_81 rfl ?_
    refine a_aload_n eX5_step_82 rfl ?_
    refine a_aload_n eX5_step_83 rfl ?_
    refine gX5_6 eX5_step_84 fl_X5_45 ?_
    exact qX5_52 rfl eX5_step_87 (Nat.le_of_ble_eq_true rfl) (tr_I [true, true, true] rfl rfl hv)
  · replace hv := hv.2 w1
    refine a_aload_n eX5_step_46 rfl ?_
    refine gX5_0 eX5_step_47 fl_X5_9 ?_
    refine a_aload_n eX5_step_50 rfl ?_
    refine gX5_6 eX5_step_51 fl_X5_45 ?_
    obtain ⟨h2, hv⟩ := hv
    refine a_iald eX5_step_54 sA22 kA22 h2 ?_
    refine a_bipush (v := 32) eX5_step_55 (by decide) ?_
    refine a_icmp_ne (tgt := 73) eX5_step_57 (by decide) (fun w3 => ?_) (fun w3 => ?_)
    · replace hv := hv.2 w3
      refine a_aload_n eX5_step_73 rfl ?_
      refine a_aload_n eX5_step_74 rfl ?_
      refine gX5_6 eX5_step_75 fl_X5_45 ?_
      refine pX5_7 eX5_step_78 fl_X5_28 ?_
      refine a_aload_n eX5_step_81 rfl ?_
      refine a_aload_n eX5_step_82 rfl ?_
      refine a_aload_n eX5_step_83 rfl ?_
      refine gX5_6 eX5_step_84 fl_X5_45 ?_
      exact qX5_52 rfl eX5_step_87 (Nat.le_of_ble_eq_true rfl) (tr_I [true, true, true] rfl rfl hv)
    · replace hv := hv.1 w3
      refine a_aload_n eX5_step_60 rfl ?_
      refine a_dup eX5_step_61 rfl ?_
      refine gX5_6 eX5_step_62 fl_X5_45 ?_
      refine a_iconst (v := 1) eX5_step_65 (by decide) ?_
      refine a_iadd eX5_step_66 ?_
      refine pX5_6 eX5_step_67 fl_X5_45 ?_
      refine a_goto (tgt := 35) eX5_step_70 (by decide) ?_
      exact a_weak [true, true, true] rfl rfl hv
theorem bX5_step_90 {l : Launch} {G : GT} {d : Nat} {M : Mem} {R : Option Value → Mem → Prop} {v1 : Int32} {v2 : Int32} {r : Int32} (hv : (((um M 21 8 r) 21 8) = 3 → At l G (d + 4) mX5_step 111 [some (.ref (G.1 21)), some (.int v1), some (.int v2)] [] (um (um M 21 8 r) 21 7 (((um M 21 8 r) 21 7) + 1)) R) ∧ (¬ (((um M 21 8 r) 21 8) = 3) → At l G (d + 4) mX5_step 111 [some (.ref (G.1 21)), some (.int v1), some (.int v2)] [] (um M 21 8 r) R)) : At l G (d + 4) mX5_step 90 [some (.ref (G.1 21)), some (.int v1), some (.int v2)] [.int r, .ref (G.1 21)] M R := by
  refine pX5_8 eX5_step_90 fl_X5_31 ?_
  refine a_aload_n eX5_step_93 rfl ?_
  refine gX5_8 eX5_step_94 fl_X5_31 ?_
  refine a_iconst (v := 3) eX5_step_97 (by decide) ?_
  refine a_icmp_ne (tgt := 111) eX5_step_98 (by decide) (fun w1 => ?_) (fun w1 => ?_)
  · replace hv := hv.2 w1
    exact a_weak [true, true, true] rfl rfl hv
  · replace hv := hv.1 w1
    refine a_aload_n eX5_step_101 rfl ?_
    refine a_dup eX5_step_102 rfl ?_
    refine gX5_7 eX5_step_103 fl_X5_28 ?_
    refine a_iconst (v := 1) eX5_step_106 (by decide) ?_
    refine a_iadd eX5_step_107 ?_
    refine pX5_7 eX5_step_108 fl_X5_28 ?_
    exact a_weak [true, true, true] rfl rfl hv
theorem bX5_step_111 {l : Launch} {G : GT} {d : Nat} {M : Mem} {R : Option Value → Mem → Prop} {v1 : Int32} {v2 : Int32} (hv : ((M 21 8) = 1 → ((M 21 1) ≤ (M 21 7) → (v1 = 0 → R none M) ∧ (¬ (v1 = 0) → ((M 21 6) = v2 → ((M 21 8) = 1 → R none (um M 21 8 4)) ∧ (¬ ((M 21 8) = 1) → ((M 21 8) = 2 → R none (um M 21 8 4)) ∧ (¬ ((M 21 8) = 2) → R none M))) ∧ (¬ ((M 21 6) = v2) → R none M))) ∧ (¬ ((M 21 1) ≤ (M 21 7)) → Tr l G (d + 3) mX5_sortAt [.ref (G.1 21), .int (M 21 7)] M (kI fun q M' => At l G (d + 4) mX5_step 146 [some (.ref (G.1 21)), some (.int v1), some (.int v2)] [.int q] M' R))) ∧ (¬ ((M 21 8) = 1) → ((M 21 8) = 2 → ((M 21 1) ≤ (M 21 7) → (v1 = 0 → R none M) ∧ (¬ (v1 = 0) → ((M 21 6) = v2 → ((M 21 8) = 1 → R none (um M 21 8 4)) ∧ (¬ ((M 21 8) = 1) → ((M 21 8) = 2 → R none (um M 21 8 4)) ∧ (¬ ((M 21 8) = 2) → R none M))) ∧ (¬ ((M 21 6) = v2) → R none M))) ∧ (¬ ((M 21 1) ≤ (M 21 7)) → Tr l G (d + 3) mX5_sortAt [.ref (G.1 21), .int (M 21 7)] M (kI fun q M' => At l G (d + 4) mX5_step 146 [some (.ref (G.1 21)), some (.int v1), some (.int v2)] [.int q] M' R))) ∧ (¬ ((M 21 8) = 2) → (v1 = 0 → R none M) ∧ (¬ (v1 = 0) → ((M 21 6) = v2 → ((M 21 8) = 1 → R none (um M 21 8 4)) ∧ (¬ ((M 21 8) = 1) → ((M 21 8) = 2 → R none (um M 21 8 4)) ∧ (¬ ((M 21 8) = 2) → R none M))) ∧ (¬ ((M 21 6) = v2) → R none M))))) : At l G (d + 4) mX5_step 111 [some (.ref (G.1 21)), some (.int v1), some (.int v2)] [] M R := by
  refine a_aload_n eX5_step_111 rfl ?_
  refine gX5_8 eX5_step_112 fl_X5_31 ?_
  refine a_iconst (v := 1) eX5_step_115 (by decide) ?_
  refine a_icmp_eq (tgt := 127) eX5_step_116 (by decide) (fun w1 => ?_) (fun w1 => ?_)
  · replace hv := hv.1 w1
    refine a_aload_n eX5_step_127 rfl ?_
    refine gX5_7 eX5_step_128 fl_X5_28 ?_
    refine a_aload_n eX5_step_131 rfl ?_
    refine gX5_1 eX5_step_132 fl_X5_18 ?_
    refine a_icmp_ge (tgt := 166) eX5_step_135 (by decide) (fun w2 => ?_) (fun w2 => ?_)
    · replace hv := hv.1 w2
      refine a_iload_n eX5_step_166 rfl ?_
      refine a_if_eq (tgt := 199) eX5_step_167 (by decide) (fun w3 => ?_) (fun w3 => ?_)
      · replace hv := hv.1 w3
        exact a_vret eX5_step_199 rfl hv
      · replace hv := hv.2 w3
        refine a_aload_n eX5_step_170 rfl ?_
        refine gX5_6 eX5_step_171 fl_X5_45 ?_
        refine a_iload_n eX5_step_174 rfl ?_
        refine a_icmp_ne (tgt := 199) eX5_step_175 (by decide) (fun w4 => ?_) (fun w4 => ?_)
        · replace hv := hv.2 w4
          exact a_vret eX5_step_199 rfl hv
        · replace hv := hv.1 w4
          refine a_aload_n eX5_step_178 rfl ?_
          refine gX5_8 eX5_step_179 fl_X5_31 ?_
          refine a_iconst (v := 1) eX5_step_182 (by decide) ?_
          refine a_icmp_eq (tgt := 194) eX5_step_183 (by decide) (fun w5 => ?_) (fun w5 => ?_)
          · replace hv := hv.1 w5
            refine a_aload_n eX5_step_194 rfl ?_
            refine a_iconst (v := 4) eX5_step_195 (by decide) ?_
            refine pX5_8 eX5_step_196 fl_X5_31 ?_
            exact a_vret eX5_step_199 rfl hv
          · replace hv := hv.2 w5
            refine a_aload_n eX5_step_186 rfl ?_
            refine gX5_8 eX5_step_187 fl_X5_31 ?_
            refine a_iconst (v := 2) eX5_step_190 (by decide) ?_
            refine a_icmp_ne (tgt := 199) eX5_step_191 (by decide) (fun w6 => ?_) (fun w6 => ?_)
            · replace hv := hv.2 w6
              exact a_vret eX5_step_199 rfl hv
            · replace hv := hv.1 w6
              refine a_aload_n eX5_step_194 rfl ?_
              refine a_iconst (v := 4) eX5_step_195 (by decide) ?_
              refine pX5_8 eX5_step_196 fl_X5_31 ?_
              exact a_vret eX5_step_199 rfl hv
    · replace hv := hv.2 w2
      refine a_aload_n eX5_step_138 rfl ?_
      refine a_aload_n eX5_step_139 rfl ?_
      refine gX5_7 eX5_step_140 fl_X5_28 ?_
      exact qX5_52 rfl eX5_step_143 (Nat.le_of_ble_eq_true rfl) (tr_I [true, true, true] rfl rfl hv)
  · replace hv := hv.2 w1
    refine a_aload_n eX5_step_119 rfl ?_
    refine gX5_8 eX5_step_120 fl_X5_31 ?_
    refine a_iconst (v := 2) eX5_step_123 (by decide) ?_
    refine a_icmp_ne (tgt := 166) eX5_step_124 (by decide) (fun w7 => ?_) (fun w7 => ?_)
    · replace hv := hv.2 w7
      refine a_iload_n eX5_step_166 rfl ?_
      refine a_if_eq (tgt := 199) eX5_step_167 (by decide) (fun w8 => ?_) (fun w8 => ?_)
      · replace hv := hv.1 w8
        exact a_vret eX5_step_199 rfl hv
      · replace hv := hv.2 w8
        refine a_aload_n eX5_step_170 rfl ?_
        refine gX5_6 eX5_step_171 fl_X5_45 ?_
        refine a_iload_n eX5_step_174 rfl ?_
        refine a_icmp_ne (tgt := 199) eX5_step_175 (by decide) (fun w9 => ?_) (fun w9 => ?_)
        · replace hv := hv.2 w9
          exact a_vret eX5_step_199 rfl hv
        · replace hv := hv.1 w9
          refine a_aload_n eX5_step_178 rfl ?_
          refine gX5_8 eX5_step_179 fl_X5_31 ?_
          refine a_iconst (v := 1) eX5_step_182 (by decide) ?_
          refine a_icmp_eq (tgt := 194) eX5_step_183 (by decide) (fun w10 => ?_) (fun w10 => ?_)
          · replace hv := hv.1 w10
            refine a_aload_n eX5_step_194 rfl ?_
            refine a_iconst (v := 4) eX5_step_195 (by decide) ?_
            refine pX5_8 eX5_step_196 fl_X5_31 ?_
            exact a_vret eX5_step_199 rfl hv
          · replace hv := hv.2 w10
            refine a_aload_n eX5_step_186 rfl ?_
            refine gX5_8 eX5_step_187 fl_X5_31 ?_
            refine a_iconst (v := 2) eX5_step_190 (by decide) ?_
            refine a_icmp_ne (tgt := 199) eX5_step_191 (by decide) (fun w11 => ?_) (fun w11 => ?_)
            · replace hv := hv.2 w11
              exact a_vret eX5_step_199 rfl hv
            · replace hv := hv.1 w11
              refine a_aload_n eX5_step_194 rfl ?_
              refine a_iconst (v := 4) eX5_step_195 (by decide) ?_
              refine pX5_8 eX5_step_196 fl_X5_31 ?_
              exact a_vret eX5_step_199 rfl hv
    · replace hv := hv.1 w7
      refine a_aload_n eX5_step_127 rfl ?_
      refine gX5_7 eX5_step_128 fl_X5_28 ?_
      refine a_aload_n eX5_step_131 rfl ?_
      refine gX5_1 eX5_step_132 fl_X5_18 ?_
      refine a_icmp_ge (tgt := 166) eX5_step_135 (by decide) (fun w12 => ?_) (fun w12 => ?_)
      · replace hv := hv.1 w12
        refine a_iload_n eX5_step_166 rfl ?_
        refine a_if_eq (tgt := 199) eX5_step_167 (by decide) (fun w13 => ?_) (fun w13 => ?_)
        · replace hv := hv.1 w13
          exact a_vret eX5_step_199 rfl hv
        · replace hv := hv.2 w13
          refine a_aload_n eX5_step_170 rfl ?_
          refine gX5_6 eX5_step_171 fl_X5_45 ?_
          refine a_iload_n eX5_step_174 rfl ?_
          refine a_icmp_ne (tgt := 199) eX5_step_175 (by decide) (fun w14 => ?_) (fun w14 => ?_)
          · replace hv := hv.2 w14
            exact a_vret eX5_step_199 rfl hv
          · replace hv := hv.1 w14
            refine a_aload_n eX5_step_178 rfl ?_
            refine gX5_8 eX5_step_179 fl_X5_31 ?_
            refine a_iconst (v := 1) eX5_step_182 (by decide) ?_
            refine a_icmp_eq (tgt := 194) eX5_step_183 (by decide) (fun w15 => ?_) (fun w15 => ?_)
            · replace hv := hv.1 w15
              refine a_aload_n eX5_step_194 rfl ?_
              refine a_iconst (v := 4) eX5_step_195 (by decide) ?_
              refine pX5_8 eX5_step_196 fl_X5_31 ?_
              exact a_vret eX5_step_199 rfl hv
            · replace hv := hv.2 w15
              refine a_aload_n eX5_step_186 rfl ?_
              refine gX5_8 eX5_step_187 fl_X5_31 ?_
              refine a_iconst (v := 2) eX5_step_190 (by decide) ?_
              refine a_icmp_ne (tgt := 199) eX5_step_191 (by decide) (fun w16 => ?_) (fun w16 => ?_)
              · replace hv := hv.2 w16
                exact a_vret eX5_step_199 rfl hv
              · replace hv := hv.1 w16
                refine a_aload_n eX5_step_194 rfl ?_
                refine a_iconst (v := 4) eX5_step_195 (by decide) ?_
                refine pX5_8 eX5_step_196 fl_X5_31 ?_
                exact a_vret eX5_step_199 rfl hv
      · replace hv := hv.2 w12
        refine a_aload_n eX5_step_138 rfl ?_
        refine a_aload_n eX5_step_139 rfl ?_
        refine gX5_7 eX5_step_140 fl_X5_28 ?_
        exact qX5_52 rfl eX5_step_143 (Nat.le_of_ble_eq_true rfl) (tr_I [true, true, true] rfl rfl hv)
theorem bX5_step_146 {l : Launch} {G : GT} {d : Nat} {M : Mem} {R : Option Value → Mem → Prop} {v1 : Int32} {v2 : Int32} {r : Int32} (hv : (r = (M 21 8) → At l G (d + 4) mX5_step 111 [some (.ref (G.1 21)), some (.int v1), some (.int v2)] [] (um M 21 7 ((M 21 7) + 1)) R) ∧ (¬ (r = (M 21 8)) → (v1 = 0 → R none M) ∧ (¬ (v1 = 0) → ((M 21 6) = v2 → ((M 21 8) = 1 → R none (um M 21 8 4)) ∧ (¬ ((M 21 8) = 1) → ((M 21 8) = 2 → R none (um M 21 8 4)) ∧ (¬ ((M 21 8) = 2) → R none M))) ∧ (¬ ((M 21 6) = v2) → R none M)))) : At l G (d + 4) mX5_step 146 [some (.ref (G.1 21)), some (.int v1), some (.int v2)] [.int r] M R := by
  refine a_aload_n eX5_step_146 rfl ?_
  refine gX5_8 eX5_step_147 fl_X5_31 ?_
  refine a_icmp_ne (tgt := 166) eX5_step_150 (by decide) (fun w1 => ?_) (fun w1 => ?_)
  · replace hv := hv.2 w1
    refine a_iload_n eX5_step_166 rfl ?_
    refine a_if_eq (tgt := 199) eX5_step_167 (by decide) (fun w2 => ?_) (fun w2 => ?_)
    · replace hv := hv.1 w2
      exact a_vret eX5_step_199 rfl hv
    · replace hv := hv.2 w2
      refine a_aload_n eX5_step_170 rfl ?_
      refine gX5_6 eX5_step_171 fl_X5_45 ?_
      refine a_iload_n eX5_step_174 rfl ?_
      refine a_icmp_ne (tgt := 199) eX5_step_175 (by decide) (fun w3 => ?_) (fun w3 => ?_)
      · replace hv := hv.2 w3
        exact a_vret eX5_step_199 rfl hv
      · replace hv := hv.1 w3
        refine a_aload_n eX5_step_178 rfl ?_
        refine gX5_8 eX5_step_179 fl_X5_31 ?_
        refine a_iconst (v := 1) eX5_step_182 (by decide) ?_
        refine a_icmp_eq (tgt := 194) eX5_step_183 (by decide) (fun w4 => ?_) (fun w4 => ?_)
        · replace hv := hv.1 w4
          refine a_aload_n eX5_step_194 rfl ?_
          refine a_iconst (v := 4) eX5_step_195 (by decide) ?_
          refine pX5_8 eX5_step_196 fl_X5_31 ?_
          exact a_vret eX5_step_199 rfl hv
        · replace hv := hv.2 w4
          refine a_aload_n eX5_step_186 rfl ?_
          refine gX5_8 eX5_step_187 fl_X5_31 ?_
          refine a_iconst (v := 2) eX5_step_190 (by decide) ?_
          refine a_icmp_ne (tgt := 199) eX5_step_191 (by decide) (fun w5 => ?_) (fun w5 => ?_)
          · replace hv := hv.2 w5
            exact a_vret eX5_step_199 rfl hv
          · replace hv := hv.1 w5
            refine a_aload_n eX5_step_194 rfl ?_
            refine a_iconst (v := 4) eX5_step_195 (by decide) ?_
            refine pX5_8 eX5_step_196 fl_X5_31 ?_
            exact a_vret eX5_step_199 rfl hv
  · replace hv := hv.1 w1
    refine a_aload_n eX5_step_153 rfl ?_
    refine a_dup eX5_step_154 rfl ?_
    refine gX5_7 eX5_step_155 fl_X5_28 ?_
    refine a_iconst (v := 1) eX5_step_158 (by decide) ?_
    refine a_iadd eX5_step_159 ?_
    refine pX5_7 eX5_step_160 fl_X5_28 ?_
    refine a_goto (tgt := 111) eX5_step_163 (by decide) ?_
    exact a_weak [true, true, true] rfl rfl hv
theorem tX5_sortAt {l : Launch} {G : GT} {d : Nat} {M : Mem} {R : Option Value → Mem → Prop} {v1 : Int32} (hv : (v1 < (M 21 1) → vp_in v1 96 ∧ ((M 22 (ix v1)) < 97 → ((M 22 (ix v1)) < 48 → R (some (.int 3)) M) ∧ (¬ ((M 22 (ix v1)) < 48) → (57 < (M 22 (ix v1)) → R (some (.int 3)) M) ∧ (¬ (57 < (M 22 (ix v1))) → R (some (.int 2)) M))) ∧ (¬ ((M 22 (ix v1)) < 97) → (122 < (M 22 (ix v1)) → ((M 22 (ix v1)) < 48 → R (some (.int 3)) M) ∧ (¬ ((M 22 (ix v1)) < 48) → (57 < (M 22 (ix v1)) → R (some (.int 3)) M) ∧ (¬ (57 < (M 22 (ix v1))) → R (some (.int 2)) M))) ∧ (¬ (122 < (M 22 (ix v1))) → R (some (.int 1)) M))) ∧ (¬ (v1 < (M 21 1)) → R (some (.int 0)) M)) : Tr l G (d + 4) mX5_sortAt [.ref (G.1 21), .int v1] M R := by
  refine Tr.of rfl (Nat.le_of_ble_eq_true rfl) (vs := [some (.ref (G.1 21)), some (.int v1), none]) rfl ?_
  refine a_iload_n eX5_sortAt_0 rfl ?_
  refine a_aload_n eX5_sortAt_1 rfl ?_
  refine gX5_1 eX5_sortAt_2 fl_X5_18 ?_
  refine a_icmp_lt (tgt := 10) eX5_sortAt_5 (by decide) (fun w1 => ?_) (fun w1 => ?_)
  · replace hv := hv.1 w1
    refine a_aload_n eX5_sortAt_10 rfl ?_
    refine gX5_0 eX5_sortAt_11 fl_X5_9 ?_
    refine a_iload_n eX5_sortAt_14 rfl ?_
    obtain ⟨h2, hv⟩ := hv
    refine a_iald eX5_sortAt_15 sA22 kA22 h2 ?_
    refine a_istore_n (vs' := [some (.ref (G.1 21)), some (.int v1), some (.int (M 22 (ix v1)))]) eX5_sortAt_16 rfl (Nat.le_of_ble_eq_true rfl) rfl ?_
    refine a_iload_n eX5_sortAt_17 rfl ?_
    refine a_bipush (v := 97) eX5_sortAt_18 (by decide) ?_
    refine a_icmp_lt (tgt := 31) eX5_sortAt_20 (by decide) (fun w3 => ?_) (fun w3 => ?_)
    · replace hv := hv.1 w3
      refine a_iload_n eX5_sortAt_31 rfl ?_
      refine a_bipush (v := 48) eX5_sortAt_32 (by decide) ?_
      refine a_icmp_lt (tgt := 47) eX5_sortAt_34 (by decide) (fun w4 => ?_) (fun w4 => ?_)
      · replace hv := hv.1 w4
        refine a_iconst (v := 3) eX5_sortAt_47 (by decide) ?_
        exact a_iret eX5_sortAt_48 rfl rfl hv
      · replace hv := hv.2 w4
        refine a_iload_n eX5_sortAt_37 rfl ?_
        refine a_bipush (v := 57) eX5_sortAt_38 (by decide) ?_
        refine a_icmp_gt (tgt := 47) eX5_sortAt_40 (by decide) (fun w5 => ?_) (fun w5 => ?_)
        · replace hv := hv.1 w5
          refine a_iconst (v := 3) eX5_sortAt_47 (by decide) ?_
          exact a_iret eX5_sortAt_48 rfl rfl hv
        · replace hv := hv.2 w5
          refine a_iconst (v := 2) eX5_sortAt_43 (by decide) ?_
          refine a_goto (tgt := 48) eX5_sortAt_44 (by decide) ?_
          exact a_iret eX5_sortAt_48 rfl rfl hv
    · replace hv := hv.2 w3
      refine a_iload_n eX5_sortAt_23 rfl ?_
      refine a_bipush (v := 122) eX5_sortAt_24 (by decide) ?_
      refine a_icmp_gt (tgt := 31) eX5_sortAt_26 (by decide) (fun w6 => ?_) (fun w6 => ?_)
      · replace hv := hv.1 w6
        refine a_iload_n eX5_sortAt_31 rfl ?_
        refine a_bipush (v := 48) eX5_sortAt_32 (by decide) ?_
        refine a_icmp_lt (tgt := 47) eX5_sortAt_34 (by decide) (fun w7 => ?_) (fun w7 => ?_)
        · replace hv := hv.1 w7
          refine a_iconst (v := 3) eX5_sortAt_47 (by decide) ?_
          exact a_iret eX5_sortAt_48 rfl rfl hv
        · replace hv := hv.2 w7
          refine a_iload_n eX5_sortAt_37 rfl ?_
          refine a_bipush (v := 57) eX5_sortAt_38 (by decide) ?_
          refine a_icmp_gt (tgt := 47) eX5_sortAt_40 (by decide) (fun w8 => ?_) (fun w8 => ?_)
          · replace hv := hv.1 w8
            refine a_iconst (v := 3) eX5_sortAt_47 (by decide) ?_
            exact a_iret eX5_sortAt_48 rfl rfl hv
          · replace hv := hv.2 w8
            refine a_iconst (v := 2) eX5_sortAt_43 (by decide) ?_
            refine a_goto (tgt := 48) eX5_sortAt_44 (by decide) ?_
            exact a_iret eX5_sortAt_48 rfl rfl hv
      · replace hv := hv.2 w6
        refine a_iconst (v := 1) eX5_sortAt_29 (by decide) ?_
        exact a_iret eX5_sortAt_30 rfl rfl hv
  · replace hv := hv.2 w1
    refine a_iconst (v := 0) eX5_sortAt_8 (by decide) ?_
    exact a_iret eX5_sortAt_9 rfl rfl hv
theorem tX5_part {l : Launch} {G : GT} {d : Nat} {M : Mem} {R : Option Value → Mem → Prop} {v1 : Int32} {v2 : Int32} {v3 : Int32} (hv : (5 ≤ v1 → Tr l G (d + 3) mX5_piece [.ref (G.1 21), .int v2, .int v3] M (kI fun q M' => At l G (d + 4) mX5_part 21 [none, none, none, none] [.int q] M' R)) ∧ (¬ (5 ≤ v1) → Tr l G (d + 3) mX5_chain [.ref (G.1 21), .int v1, .int v2, .int v3] M (kI fun q M' => At l G (d + 4) mX5_part 12 [none, none, none, none] [.int q] M' R))) : Tr l G (d + 4) mX5_part [.ref (G.1 21), .int v1, .int v2, .int v3] M R := by
  refine Tr.of rfl (Nat.le_of_ble_eq_true rfl) (vs := [some (.ref (G.1 21)), some (.int v1), some (.int v2), some (.int v3)]) rfl ?_
  refine a_iload_n eX5_part_0 rfl ?_
  refine a_iconst (v := 5) eX5_part_1 (by decide) ?_
  refine a_icmp_ge (tgt := 15) eX5_part_2 (by decide) (fun w1 => ?_) (fun w1 => ?_)
  · replace hv := hv.1 w1
    refine a_aload_n eX5_part_15 rfl ?_
    refine a_iload_n eX5_part_16 rfl ?_
    refine a_iload_n eX5_part_17 rfl ?_
    exact qX5_59 rfl eX5_part_18 (Nat.le_of_ble_eq_true rfl) (tr_I [false, false, false, false] rfl rfl hv)
  · replace hv := hv.2 w1
    refine a_aload_n eX5_part_5 rfl ?_
    refine a_iload_n eX5_part_6 rfl ?_
    refine a_iload_n eX5_part_7 rfl ?_
    refine a_iload_n eX5_part_8 rfl ?_
    exact qX5_56 rfl eX5_part_9 (Nat.le_of_ble_eq_true rfl) (tr_I [false, false, false, false] rfl rfl hv)
theorem bX5_part_12 {l : Launch} {G : GT} {d : Nat} {M : Mem} {R : Option Value → Mem → Prop} {r : Int32} (hv : narrow .boolean (.int r) = .int r ∧ R (some (.int r)) M) : At l G (d + 4) mX5_part 12 [none, none, none, none] [.int r] M R := by
  refine a_goto (tgt := 21) eX5_part_12 (by decide) ?_
  obtain ⟨h1, hv⟩ := hv
  exact a_iret eX5_part_21 rfl h1 hv
theorem bX5_part_21 {l : Launch} {G : GT} {d : Nat} {M : Mem} {R : Option Value → Mem → Prop} {r : Int32} (hv : narrow .boolean (.int r) = .int r ∧ R (some (.int r)) M) : At l G (d + 4) mX5_part 21 [none, none, none, none] [.int r] M R := by
  obtain ⟨h1, hv⟩ := hv
  exact a_iret eX5_part_21 rfl h1 hv
theorem tX5_chain {l : Launch} {G : GT} {d : Nat} {M : Mem} {R : Option Value → Mem → Prop} {v1 : Int32} {v2 : Int32} {v3 : Int32} (hv : Tr l G (d + 3) mX5_part [.ref (G.1 21), .int (v1 + 1), .int v2, .int v3] M (kI fun q M' => At l G (d + 4) mX5_chain 9 [some (.ref (G.1 21)), some (.int v1), some (.int v2), some (.int v3), none, none] [.int q] M' R)) : Tr l G (d + 4) mX5_chain [.ref (G.1 21), .int v1, .int v2, .int v3] M R := by
  refine Tr.of rfl (Nat.le_of_ble_eq_true rfl) (vs := [some (.ref (G.1 21)), some (.int v1), some (.int v2), some (.int v3), none, none]) rfl ?_
  refine a_aload_n eX5_chain_0 rfl ?_
  refine a_iload_n eX5_chain_1 rfl ?_
  refine a_iconst (v := 1) eX5_chain_2 (by decide) ?_
  refine a_iadd eX5_chain_3 ?_
  refine a_iload_n eX5_chain_4 rfl ?_
  refine a_iload_n eX5_chain_5 rfl ?_
  exact qX5_48 rfl eX5_chain_6 (Nat.le_of_ble_eq_true rfl) (tr_I [true, true, true, true, false, false] rfl rfl hv)
theorem bX5_chain_9 {l : Launch} {G : GT} {d : Nat} {M : Mem} {R : Option Value → Mem → Prop} {v1 : Int32} {v2 : Int32} {v3 : Int32} {r : Int32} (hv : (r = 0 → R (some (.int 0)) M) ∧ (¬ (r = 0) → At l G (d + 4) mX5_chain 17 [some (.ref (G.1 21)), some (.int v1), some (.int v2), some (.int v3), some (.int 0), none] [] M R)) : At l G (d + 4) mX5_chain 9 [some (.ref (G.1 21)), some (.int v1), some (.int v2), some (.int v3), none, none] [.int r] M R := by
  refine a_if_ne (tgt := 14) eX5_chain_9 (by decide) (fun w1 => ?_) (fun w1 => ?_)
  · replace hv := hv.2 w1
    refine a_iconst (v := 0) eX5_chain_14 (by decide) ?_
    refine a_istore (vs' := [some (.ref (G.1 21)), some (.int v1), some (.int v2), some (.int v3), some (.int 0), none]) eX5_chain_15 rfl (Nat.le_of_ble_eq_true rfl) rfl ?_
    exact a_weak [true, true, true, true, true, false] rfl rfl hv
  · replace hv := hv.1 w1
    refine a_iconst (v := 0) eX5_chain_12 (by decide) ?_
    exact a_iret eX5_chain_13 rfl rfl hv
theorem bX5_chain_17 {l : Launch} {G : GT} {d : Nat} {M : Mem} {R : Option Value → Mem → Prop} {v1 : Int32} {v2 : Int32} {v3 : Int32} {v4 : Int32} (hv : ((M 21 1) ≤ v4 → R (some (.int 1)) M) ∧ (¬ ((M 21 1) ≤ v4) → ((M 21 8) = 3 → vp_in (M 21 6) 96 ∧ Tr l G (d + 3) mX5_joins [.int v1, .int (M 22 (ix (M 21 6)))] M (kI fun q M' => At l G (d + 4) mX5_chain 47 [some (.ref (G.1 21)), some (.int v1), some (.int v2), some (.int v3), some (.int v4), none] [.int q] M' R)) ∧ (¬ ((M 21 8) = 3) → R (some (.int 1)) M))) : At l G (d + 4) mX5_chain 17 [some (.ref (G.1 21)), some (.int v1), some (.int v2), some (.int v3), some (.int v4), none] [] M R := by
  refine a_iload eX5_chain_17 rfl ?_
  refine a_aload_n eX5_chain_19 rfl ?_
  refine gX5_1 eX5_chain_20 fl_X5_18 ?_
  refine a_icmp_ge (tgt := 102) eX5_chain_23 (by decide) (fun w1 => ?_) (fun w1 => ?_)
  · replace hv := hv.1 w1
    refine a_iconst (v := 1) eX5_chain_102 (by decide) ?_
    exact a_iret eX5_chain_103 rfl rfl hv
  · replace hv := hv.2 w1
    refine a_aload_n eX5_chain_26 rfl ?_
    refine gX5_8 eX5_chain_27 fl_X5_31 ?_
    refine a_iconst (v := 3) eX5_chain_30 (by decide) ?_
    refine a_icmp_ne (tgt := 102) eX5_chain_31 (by decide) (fun w2 => ?_) (fun w2 => ?_)
    · replace hv := hv.2 w2
      refine a_iconst (v := 1) eX5_chain_102 (by decide) ?_
      exact a_iret eX5_chain_103 rfl rfl hv
    · replace hv := hv.1 w2
      refine a_iload_n eX5_chain_34 rfl ?_
      refine a_aload_n eX5_chain_35 rfl ?_
      refine gX5_0 eX5_chain_36 fl_X5_9 ?_
      refine a_aload_n eX5_chain_39 rfl ?_
      refine gX5_6 eX5_chain_40 fl_X5_45 ?_
      obtain ⟨h3, hv⟩ := hv
      refine a_iald eX5_chain_43 sA22 kA22 h3 ?_
      exact qX5_63 rfl eX5_chain_44 (Nat.le_of_ble_eq_true rfl) (tr_I [true, true, true, true, true, false] rfl rfl hv)
theorem bX5_chain_47 {l : Launch} {G : GT} {d : Nat} {M : Mem} {R : Option Value → Mem → Prop} {v1 : Int32} {v2 : Int32} {v3 : Int32} {v4 : Int32} {r : Int32} (hv : (r = 0 → R (some (.int 1)) M) ∧ (¬ (r = 0) → vp_in (M 21 6) 96 ∧ Tr l G (d + 3) mX5_step [.ref (G.1 21)] M (kV fun M' => At l G (d + 4) mX5_chain 65 [some (.ref (G.1 21)), some (.int v1), some (.int v2), some (.int v3), some (.int v4), some (.int (M 22 (ix (M 21 6))))] [] M' R))) : At l G (d + 4) mX5_chain 47 [some (.ref (G.1 21)), some (.int v1), some (.int v2), some (.int v3), some (.int v4), none] [.int r] M R := by
  refine a_if_eq (tgt := 102) eX5_chain_47 (by decide) (fun w1 => ?_) (fun w1 => ?_)
  · replace hv := hv.1 w1
    refine a_iconst (v := 1) eX5_chain_102 (by decide) ?_
    exact a_iret eX5_chain_103 rfl rfl hv
  · replace hv := hv.2 w1
    refine a_aload_n eX5_chain_50 rfl ?_
    refine gX5_0 eX5_chain_51 fl_X5_9 ?_
    refine a_aload_n eX5_chain_54 rfl ?_
    refine gX5_6 eX5_chain_55 fl_X5_45 ?_
    obtain ⟨h2, hv⟩ := hv
    refine a_iald eX5_chain_58 sA22 kA22 h2 ?_
    refine a_istore (vs' := [some (.ref (G.1 21)), some (.int v1), some (.int v2), some (.int v3), some (.int v4), some (.int (M 22 (ix (M 21 6))))]) eX5_chain_59 rfl (Nat.le_of_ble_eq_true rfl) rfl ?_
    refine a_aload_n eX5_chain_61 rfl ?_
    exact qX5_34 rfl eX5_chain_62 (Nat.le_of_ble_eq_true rfl) (tr_V [true, true, true, true, true, true] rfl rfl hv)
theorem bX5_chain_65 {l : Launch} {G : GT} {d : Nat} {M : Mem} {R : Option Value → Mem → Prop} {v1 : Int32} {v2 : Int32} {v3 : Int32} {v4 : Int32} {v5 : Int32} (hv : Tr l G (d + 3) mX5_part [.ref (G.1 21), .int (v1 + 1), .int v2, .int v3] M (kI fun q M' => At l G (d + 4) mX5_chain 74 [some (.ref (G.1 21)), some (.int v1), some (.int v2), some (.int v3), some (.int v4), some (.int v5)] [.int q] M' R)) : At l G (d + 4) mX5_chain 65 [some (.ref (G.1 21)), some (.int v1), some (.int v2), some (.int v3), some (.int v4), some (.int v5)] [] M R := by
  refine a_aload_n eX5_chain_65 rfl ?_
  refine a_iload_n eX5_chain_66 rfl ?_
  refine a_iconst (v := 1) eX5_chain_67 (by decide) ?_
  refine a_iadd eX5_chain_68 ?_
  refine a_iload_n eX5_chain_69 rfl ?_
  refine a_iload_n eX5_chain_70 rfl ?_
  exact qX5_48 rfl eX5_chain_71 (Nat.le_of_ble_eq_true rfl) (tr_I [true, true, true, true, true, true] rfl rfl hv)
theorem bX5_chain_74 {l : Launch} {G : GT} {d : Nat} {M : Mem} {R : Option Value → Mem → Prop} {v1 : Int32} {v2 : Int32} {v3 : Int32} {v4 : Int32} {v5 : Int32} {r : Int32} (hv : (r = 0 → R (some (.int 0)) M) ∧ (¬ (r = 0) → Tr l G (d + 3) mX5_put [.ref (G.1 21), .int (20000 + v5)] M (kV fun M' => At l G (d + 4) mX5_chain 89 [some (.ref (G.1 21)), some (.int v1), some (.int v2), some (.int v3), some (.int v4), none] [] M' R))) : At l G (d + 4) mX5_chain 74 [some (.ref (G.1 21)), some (.int v1), some (.int v2), some (.int v3), some (.int v4), some (.int v5)] [.int r] M R := by
  refine a_if_ne (tgt := 79) eX5_chain_74 (by decide) (fun w1 => ?_) (fun w1 => ?_)
  · replace hv := hv.2 w1
    refine a_aload_n eX5_chain_79 rfl ?_
    refine a_sipush (v := 20000) eX5_chain_80 (by decide) ?_
    refine a_iload eX5_chain_83 rfl ?_
    refine a_iadd eX5_chain_85 ?_
    exact qX5_66 rfl eX5_chain_86 (Nat.le_of_ble_eq_true rfl) (tr_V [true, true, true, true, true, false] rfl rfl hv)
  · replace hv := hv.1 w1
    refine a_iconst (v := 0) eX5_chain_77 (by decide) ?_
    exact a_iret eX5_chain_78 rfl rfl hv
theorem bX5_chain_89 {l : Launch} {G : GT} {d : Nat} {M : Mem} {R : Option Value → Mem → Prop} {v1 : Int32} {v2 : Int32} {v3 : Int32} {v4 : Int32} (hv : (v1 = 2 → R (some (.int 1)) M) ∧ (¬ (v1 = 2) → At l G (d + 4) mX5_chain 17 [some (.ref (G.1 21)), some (.int v1), some (.int v2), some (.int v3), some (.int (v4 + 1)), none] [] M R)) : At l G (d + 4) mX5_chain 89 [some (.ref (G.1 21)), some (.int v1), some (.int v2), some (.int v3), some (.int v4), none] [] M R := by
  refine a_iload_n eX5_chain_89 rfl ?_
  refine a_iconst (v := 2) eX5_chain_90 (by decide) ?_
  refine a_icmp_ne (tgt := 96) eX5_chain_91 (by decide) (fun w1 => ?_) (fun w1 => ?_)
  · replace hv := hv.2 w1
    refine a_iinc (v := 1) (vs' := [some (.ref (G.1 21)), some (.int v1), some (.int v2), some (.int v3), some (.int (v4 + 1)), none]) eX5_chain_96 rfl rfl (by decide) rfl ?_
    refine a_goto (tgt := 17) eX5_chain_99 (by decide) ?_
    exact a_weak [true, true, true, true, true, false] rfl rfl hv
  · replace hv := hv.1 w1
    refine a_iconst (v := 1) eX5_chain_94 (by decide) ?_
    exact a_iret eX5_chain_95 rfl rfl hv
theorem tX5_piece {l : Launch} {G : GT} {d : Nat} {M : Mem} {R : Option Value → Mem → Prop} {v1 : Int32} {v2 : Int32} (hv : ((M 21 8) = 2 → Tr l G (d + 3) mX5_operand [.ref (G.1 21)] M (kI fun q M' => At l G (d + 4) mX5_piece 20 [none, none, none, none] [.int q] M' R)) ∧ (¬ ((M 21 8) = 2) → ((M 21 8) = 1 → Tr l G (d + 3) mX5_operand [.ref (G.1 21)] M (kI fun q M' => At l G (d + 4) mX5_piece 20 [none, none, none, none] [.int q] M' R)) ∧ (¬ ((M 21 8) = 1) → ((M 21 8) = 3 → vp_in (M 21 6) 96 ∧ ((M 22 (ix (M 21 6))) = 33 → (8 ≤ v2 → vp_in (M 21 6) 96 ∧ ((M 22 (ix (M 21 6))) = 40 → (8 ≤ v1 → R (some (.int 0)) M) ∧ (¬ (8 ≤ v1) → Tr l G (d + 3) mX5_step [.ref (G.1 21)] M (kV fun M' => At l G (d + 4) mX5_piece 98 [some (.ref (G.1 21)), some (.int v1), some (.int v2), none] [] M' R))) ∧ (¬ ((M 22 (ix (M 21 6))) = 40) → R (some (.int 0)) M)) ∧ (¬ (8 ≤ v2) → Tr l G (d + 3) mX5_step [.ref (G.1 21)] M (kV fun M' => At l G (d + 4) mX5_piece 55 [some (.ref (G.1 21)), some (.int v1), some (.int v2), none] [] M' R))) ∧ (¬ ((M 22 (ix (M 21 6))) = 33) → vp_in (M 21 6) 96 ∧ ((M 22 (ix (M 21 6))) = 40 → (8 ≤ v1 → R (some (.int 0)) M) ∧ (¬ (8 ≤ v1) → Tr l G (d + 3) mX5_step [.ref (G.1 21)] M (kV fun M' => At l G (d + 4) mX5_piece 98 [some (.ref (G.1 21)), some (.int v1), some (.int v2), none] [] M' R))) ∧ (¬ ((M 22 (ix (M 21 6))) = 40) → R (some (.int 0)) M))) ∧ (¬ ((M 21 8) = 3) → R (some (.int 0)) M)))) : Tr l G (d + 4) mX5_piece [.ref (G.1 21), .int v1, .int v2] M R := by
  refine Tr.of rfl (Nat.le_of_ble_eq_true rfl) (vs := [some (.ref (G.1 21)), some (.int v1), some (.int v2), none]) rfl ?_
  refine a_aload_n eX5_piece_0 rfl ?_
  refine gX5_8 eX5_piece_1 fl_X5_31 ?_
  refine a_iconst (v := 2) eX5_piece_4 (by decide) ?_
  refine a_icmp_eq (tgt := 16) eX5_piece_5 (by decide) (fun w1 => ?_) (fun w1 => ?_)
  · replace hv := hv.1 w1
    refine a_aload_n eX5_piece_16 rfl ?_
    exact qX5_70 rfl eX5_piece_17 (Nat.le_of_ble_eq_true rfl) (tr_I [false, false, false, false] rfl rfl hv)
  · replace hv := hv.2 w1
    refine a_aload_n eX5_piece_8 rfl ?_
    refine gX5_8 eX5_piece_9 fl_X5_31 ?_
    refine a_iconst (v := 1) eX5_piece_12 (by decide) ?_
    refine a_icmp_ne (tgt := 21) eX5_piece_13 (by decide) (fun w2 => ?_) (fun w2 => ?_)
    · replace hv := hv.2 w2
      refine a_aload_n eX5_piece_21 rfl ?_
      refine gX5_8 eX5_piece_22 fl_X5_31 ?_
      refine a_iconst (v := 3) eX5_piece_25 (by decide) ?_
      refine a_icmp_eq (tgt := 31) eX5_piece_26 (by decide) (fun w3 => ?_) (fun w3 => ?_)
      · replace hv := hv.1 w3
        refine a_aload_n eX5_piece_31 rfl ?_
        refine gX5_0 eX5_piece_32 fl_X5_9 ?_
        refine a_aload_n eX5_piece_35 rfl ?_
        refine gX5_6 eX5_piece_36 fl_X5_45 ?_
        obtain ⟨h4, hv⟩ := hv
        refine a_iald eX5_piece_39 sA22 kA22 h4 ?_
        refine a_bipush (v := 33) eX5_piece_40 (by decide) ?_
        refine a_icmp_ne (tgt := 74) eX5_piece_42 (by decide) (fun w5 => ?_) (fun w5 => ?_)
        · replace hv := hv.2 w5
          refine a_aload_n eX5_piece_74 rfl ?_
          refine gX5_0 eX5_piece_75 fl_X5_9 ?_
          refine a_aload_n eX5_piece_78 rfl ?_
          refine gX5_6 eX5_piece_79 fl_X5_45 ?_
          obtain ⟨h6, hv⟩ := hv
          refine a_iald eX5_piece_82 sA22 kA22 h6 ?_
          refine a_bipush (v := 40) eX5_piece_83 (by decide) ?_
          refine a_icmp_ne (tgt := 140) eX5_piece_85 (by decide) (fun w7 => ?_) (fun w7 => ?_)
          · replace hv := hv.2 w7
            refine a_iconst (v := 0) eX5_piece_140 (by decide) ?_
            exact a_iret eX5_piece_141 rfl rfl hv
          · replace hv := hv.1 w7
            refine a_iload_n eX5_piece_88 rfl ?_
            refine a_bipush (v := 8) eX5_piece_89 (by decide) ?_
            refine a_icmp_ge (tgt := 140) eX5_piece_91 (by decide) (fun w8 => ?_) (fun w8 => ?_)
            · replace hv := hv.1 w8
              refine a_iconst (v := 0) eX5_piece_140 (by decide) ?_
              exact a_iret eX5_piece_141 rfl rfl hv
            · replace hv := hv.2 w8
              refine a_aload_n eX5_piece_94 rfl ?_
              exact qX5_34 rfl eX5_piece_95 (Nat.le_of_ble_eq_true rfl) (tr_V [true, true, true, false] rfl rfl hv)
        · replace hv := hv.1 w5
          refine a_iload_n eX5_piece_45 rfl ?_
          refine a_bipush (v := 8) eX5_piece_46 (by decide) ?_
          refine a_icmp_ge (tgt := 74) eX5_piece_48 (by decide) (fun w9 => ?_) (fun w9 => ?_)
          · replace hv := hv.1 w9
            refine a_aload_n eX5_piece_74 rfl ?_
            refine gX5_0 eX5_piece_75 fl_X5_9 ?_
            refine a_aload_n eX5_piece_78 rfl ?_
            refine gX5_6 eX5_piece_79 fl_X5_45 ?_
            obtain ⟨h10, hv⟩ := hv
            refine a_iald eX5_piece_82 sA22 kA22 h10 ?_
            refine a_bipush (v := 40) eX5_piece_83 (by decide) ?_
            refine a_icmp_ne (tgt := 140) eX5_piece_85 (by decide) (fun w11 => ?_) (fun w11 => ?_)
            · replace hv := hv.2 w11
              refine a_iconst (v := 0) eX5_piece_140 (by decide) ?_
              exact a_iret eX5_piece_141 rfl rfl hv
            · replace hv := hv.1 w11
              refine a_iload_n eX5_piece_88 rfl ?_
              refine a_bipush (v := 8) eX5_piece_89 (by decide) ?_
              refine a_icmp_ge (tgt := 140) eX5_piece_91 (by decide) (fun w12 => ?_) (fun w12 => ?_)
              · replace hv := hv.1 w12
                refine a_iconst (v := 0) eX5_piece_140 (by decide) ?_
                exact a_iret eX5_piece_141 rfl rfl hv
              · replace hv := hv.2 w12
                refine a_aload_n eX5_piece_94 rfl ?_
                exact qX5_34 rfl eX5_piece_95 (Nat.le_of_ble_eq_true rfl) (tr_V [true, true, true, false] rfl rfl hv)
          · replace hv := hv.2 w9
            refine a_aload_n eX5_piece_51 rfl ?_
            exact qX5_34 rfl eX5_piece_52 (Nat.le_of_ble_eq_true rfl) (tr_V [true, true, true, false] rfl rfl hv)
      · replace hv := hv.2 w3
        refine a_iconst (v := 0) eX5_piece_29 (by decide) ?_
        exact a_iret eX5_piece_30 rfl rfl hv
    · replace hv := hv.1 w2
      refine a_aload_n eX5_piece_16 rfl ?_
      exact qX5_70 rfl eX5_piece_17 (Nat.le_of_ble_eq_true rfl) (tr_I [false, false, false, false] rfl rfl hv)
theorem bX5_piece_55 {l : Launch} {G : GT} {d : Nat} {M : Mem} {R : Option Value → Mem → Prop} {v1 : Int32} {v2 : Int32} (hv : Tr l G (d + 3) mX5_part [.ref (G.1 21), .int 5, .int v1, .int (v2 + 1)] M (kI fun q M' => At l G (d + 4) mX5_piece 64 [some (.ref (G.1 21)), none, none, none] [.int q] M' R)) : At l G (d + 4) mX5_piece 55 [some (.ref (G.1 21)), some (.int v1), some (.int v2), none] [] M R := by
  refine a_aload_n eX5_piece_55 rfl ?_
  refine a_iconst (v := 5) eX5_piece_56 (by decide) ?_
  refine a_iload_n eX5_piece_57 rfl ?_
  refine a_iload_n eX5_piece_58 rfl ?_
  refine a_iconst (v := 1) eX5_piece_59 (by decide) ?_
  refine a_iadd eX5_piece_60 ?_
  exact qX5_48 rfl eX5_piece_61 (Nat.le_of_ble_eq_true rfl) (tr_I [true, false, false, false] rfl rfl hv)
theorem bX5_piece_64 {l : Launch} {G : GT} {d : Nat} {M : Mem} {R : Option Value → Mem → Prop} {r : Int32} (hv : Tr l G (d + 3) mX5_put [.ref (G.1 21), .int 20033] M (kV fun M' => At l G (d + 4) mX5_piece 72 [none, none, none, some (.int r)] [] M' R)) : At l G (d + 4) mX5_piece 64 [some (.ref (G.1 21)), none, none, none] [.int r] M R := by
  refine a_istore_n (vs' := [some (.ref (G.1 21)), none, none, some (.int r)]) eX5_piece_64 rfl (Nat.le_of_ble_eq_true rfl) rfl ?_
  refine a_aload_n eX5_piece_65 rfl ?_
  refine a_sipush (v := 20033) eX5_piece_66 (by decide) ?_
  exact qX5_66 rfl eX5_piece_69 (Nat.le_of_ble_eq_true rfl) (tr_V [false, false, false, true] rfl rfl hv)
theorem bX5_piece_72 {l : Launch} {G : GT} {d : Nat} {M : Mem} {R : Option Value → Mem → Prop} {v3 : Int32} (hv : narrow .boolean (.int v3) = .int v3 ∧ R (some (.int v3)) M) : At l G (d + 4) mX5_piece 72 [none, none, none, some (.int v3)] [] M R := by
  refine a_iload_n eX5_piece_72 rfl ?_
  obtain ⟨h1, hv⟩ := hv
  exact a_iret eX5_piece_73 rfl h1 hv
theorem bX5_piece_98 {l : Launch} {G : GT} {d : Nat} {M : Mem} {R : Option Value → Mem → Prop} {v1 : Int32} {v2 : Int32} (hv : Tr l G (d + 3) mX5_part [.ref (G.1 21), .int 0, .int (v1 + 1), .int v2] M (kI fun q M' => At l G (d + 4) mX5_piece 107 [some (.ref (G.1 21)), none, none, none] [.int q] M' R)) : At l G (d + 4) mX5_piece 98 [some (.ref (G.1 21)), some (.int v1), some (.int v2), none] [] M R := by
  refine a_aload_n eX5_piece_98 rfl ?_
  refine a_iconst (v := 0) eX5_piece_99 (by decide) ?_
  refine a_iload_n eX5_piece_100 rfl ?_
  refine a_iconst (v := 1) eX5_piece_101 (by decide) ?_
  refine a_iadd eX5_piece_102 ?_
  refine a_iload_n eX5_piece_103 rfl ?_
  exact qX5_48 rfl eX5_piece_104 (Nat.le_of_ble_eq_true rfl) (tr_I [true, false, false, false] rfl rfl hv)
theorem bX5_piece_107 {l : Launch} {G : GT} {d : Nat} {M : Mem} {R : Option Value → Mem → Prop} {r : Int32} (hv : (r = 0 → R (some (.int 0)) M) ∧ (¬ (r = 0) → ((M 21 8) = 3 → vp_in (M 21 6) 96 ∧ ((M 22 (ix (M 21 6))) = 41 → Tr l G (d + 3) mX5_step [.ref (G.1 21)] M (kV fun M' => At l G (d + 4) mX5_piece 138 [none, none, none, none] [] M' R)) ∧ (¬ ((M 22 (ix (M 21 6))) = 41) → R (some (.int 0)) M)) ∧ (¬ ((M 21 8) = 3) → R (some (.int 0)) M))) : At l G (d + 4) mX5_piece 107 [some (.ref (G.1 21)), none, none, none] [.int r] M R := by
  refine a_if_eq (tgt := 132) eX5_piece_107 (by decide) (fun w1 => ?_) (fun w1 => ?_)
  · replace hv := hv.1 w1
    refine a_iconst (v := 0) eX5_piece_132 (by decide) ?_
    exact a_iret eX5_piece_133 rfl rfl hv
  · replace hv := hv.2 w1
    refine a_aload_n eX5_piece_110 rfl ?_
    refine gX5_8 eX5_piece_111 fl_X5_31 ?_
    refine a_iconst (v := 3) eX5_piece_114 (by decide) ?_
    refine a_icmp_ne (tgt := 132) eX5_piece_115 (by decide) (fun w2 => ?_) (fun w2 => ?_)
    · replace hv := hv.2 w2
      refine a_iconst (v := 0) eX5_piece_132 (by decide) ?_
      exact a_iret eX5_piece_133 rfl rfl hv
    · replace hv := hv.1 w2
      refine a_aload_n eX5_piece_118 rfl ?_
      refine gX5_0 eX5_piece_119 fl_X5_9 ?_
      refine a_aload_n eX5_piece_122 rfl ?_
      refine gX5_6 eX5_piece_123 fl_X5_45 ?_
      obtain ⟨h3, hv⟩ := hv
      refine a_iald eX5_piece_126 sA22 kA22 h3 ?_
      refine a_bipush (v := 41) eX5_piece_127 (by decide) ?_
      refine a_icmp_eq (tgt := 134) eX5_piece_129 (by decide) (fun w4 => ?_) (fun w4 => ?_)
      · replace hv := hv.1 w4
        refine a_aload_n eX5_piece_134 rfl ?_
        exact qX5_34 rfl eX5_piece_135 (Nat.le_of_ble_eq_true rfl) (tr_V [false, false, false, false] rfl rfl hv)
      · replace hv := hv.2 w4
        refine a_iconst (v := 0) eX5_piece_132 (by decide) ?_
        exact a_iret eX5_piece_133 rfl rfl hv
theorem bX5_piece_138 {l : Launch} {G : GT} {d : Nat} {M : Mem} {R : Option Value → Mem → Prop}  (hv : R (some (.int 1)) M) : At l G (d + 4) mX5_piece 138 [none, none, none, none] [] M R := by
  refine a_iconst (v := 1) eX5_piece_138 (by decide) ?_
  exact a_iret eX5_piece_139 rfl rfl hv
theorem bX5_piece_20 {l : Launch} {G : GT} {d : Nat} {M : Mem} {R : Option Value → Mem → Prop} {r : Int32} (hv : narrow .boolean (.int r) = .int r ∧ R (some (.int r)) M) : At l G (d + 4) mX5_piece 20 [none, none, none, none] [.int r] M R := by
  obtain ⟨h1, hv⟩ := hv
  exact a_iret eX5_piece_20 rfl h1 hv
theorem tX5_operand {l : Launch} {G : GT} {d : Nat} {M : Mem} {R : Option Value → Mem → Prop}  (hv : ((M 21 8) = 2 → Tr l G (d + 3) mX5_numberRead [.ref (G.1 21)] M (kI fun q M' => At l G (d + 4) mX5_operand 12 [some (.ref (G.1 21)), none] [.int q] M' R)) ∧ (¬ ((M 21 8) = 2) → Tr l G (d + 3) mX5_nameRead [.ref (G.1 21)] M (kI fun q M' => At l G (d + 4) mX5_operand 19 [some (.ref (G.1 21)), none] [.int q] M' R))) : Tr l G (d + 4) mX5_operand [.ref (G.1 21)] M R := by
  refine Tr.of rfl (Nat.le_of_ble_eq_true rfl) (vs := [some (.ref (G.1 21)), none]) rfl ?_
  refine a_aload_n eX5_operand_0 rfl ?_
  refine gX5_8 eX5_operand_1 fl_X5_31 ?_
  refine a_iconst (v := 2) eX5_operand_4 (by decide) ?_
  refine a_icmp_ne (tgt := 15) eX5_operand_5 (by decide) (fun w1 => ?_) (fun w1 => ?_)
  · replace hv := hv.2 w1
    refine a_aload_n eX5_operand_15 rfl ?_
    exact qX5_77 rfl eX5_operand_16 (Nat.le_of_ble_eq_true rfl) (tr_I [true, false] rfl rfl hv)
  · replace hv := hv.1 w1
    refine a_aload_n eX5_operand_8 rfl ?_
    exact qX5_74 rfl eX5_operand_9 (Nat.le_of_ble_eq_true rfl) (tr_I [true, false] rfl rfl hv)
theorem bX5_operand_12 {l : Launch} {G : GT} {d : Nat} {M : Mem} {R : Option Value → Mem → Prop} {r : Int32} (hv : (r = (-1000000005) → R (some (.int 0)) M) ∧ (¬ (r = (-1000000005)) → Tr l G (d + 3) mX5_put [.ref (G.1 21), .int r] M (kV fun M' => At l G (d + 4) mX5_operand 33 [some (.ref (G.1 21)), none] [] M' R))) : At l G (d + 4) mX5_operand 12 [some (.ref (G.1 21)), none] [.int r] M R := by
  refine a_goto (tgt := 19) eX5_operand_12 (by decide) ?_
  refine a_istore_n (vs' := [some (.ref (G.1 21)), some (.int r)]) eX5_operand_19 rfl (Nat.le_of_ble_eq_true rfl) rfl ?_
  refine a_iload_n eX5_operand_20 rfl ?_
  refine a_ldc eX5_operand_21 kc_X5_44 ?_
  refine a_icmp_ne (tgt := 28) eX5_operand_23 (by decide) (fun w1 => ?_) (fun w1 => ?_)
  · replace hv := hv.2 w1
    refine a_aload_n eX5_operand_28 rfl ?_
    refine a_iload_n eX5_operand_29 rfl ?_
    exact qX5_66 rfl eX5_operand_30 (Nat.le_of_ble_eq_true rfl) (tr_V [true, false] rfl rfl hv)
  · replace hv := hv.1 w1
    refine a_iconst (v := 0) eX5_operand_26 (by decide) ?_
    exact a_iret eX5_operand_27 rfl rfl hv
theorem bX5_operand_33 {l : Launch} {G : GT} {d : Nat} {M : Mem} {R : Option Value → Mem → Prop}  (hv : Tr l G (d + 3) mX5_step [.ref (G.1 21)] (um M 21 4 ((M 21 4) + 1)) (kV fun M' => At l G (d + 4) mX5_operand 47 [none, none] [] M' R)) : At l G (d + 4) mX5_operand 33 [some (.ref (G.1 21)), none] [] M R := by
  refine a_aload_n eX5_operand_33 rfl ?_
  refine a_dup eX5_operand_34 rfl ?_
  refine gX5_4 eX5_operand_35 fl_X5_25 ?_
  refine a_iconst (v := 1) eX5_operand_38 (by decide) ?_
  refine a_iadd eX5_operand_39 ?_
  refine pX5_4 eX5_operand_40 fl_X5_25 ?_
  refine a_aload_n eX5_operand_43 rfl ?_
  exact qX5_34 rfl eX5_operand_44 (Nat.le_of_ble_eq_true rfl) (tr_V [false, false] rfl rfl hv)
theorem bX5_operand_47 {l : Launch} {G : GT} {d : Nat} {M : Mem} {R : Option Value → Mem → Prop}  (hv : R (some (.int 1)) M) : At l G (d + 4) mX5_operand 47 [none, none] [] M R := by
  refine a_iconst (v := 1) eX5_operand_47 (by decide) ?_
  exact a_iret eX5_operand_48 rfl rfl hv
theorem bX5_operand_19 {l : Launch} {G : GT} {d : Nat} {M : Mem} {R : Option Value → Mem → Prop} {r : Int32} (hv : (r = (-1000000005) → R (some (.int 0)) M) ∧ (¬ (r = (-1000000005)) → Tr l G (d + 3) mX5_put [.ref (G.1 21), .int r] M (kV fun M' => At l G (d + 4) mX5_operand 33 [some (.ref (G.1 21)), none] [] M' R))) : At l G (d + 4) mX5_operand 19 [some (.ref (G.1 21)), none] [.int r] M R := by
  refine a_istore_n (vs' := [some (.ref (G.1 21)), some (.int r)]) eX5_operand_19 rfl (Nat.le_of_ble_eq_true rfl) rfl ?_
  refine a_iload_n eX5_operand_20 rfl ?_
  refine a_ldc eX5_operand_21 kc_X5_44 ?_
  refine a_icmp_ne (tgt := 28) eX5_operand_23 (by decide) (fun w1 => ?_) (fun w1 => ?_)
  · replace hv := hv.2 w1
    refine a_aload_n eX5_operand_28 rfl ?_
    refine a_iload_n eX5_operand_29 rfl ?_
    exact qX5_66 rfl eX5_operand_30 (Nat.le_of_ble_eq_true rfl) (tr_V [true, false] rfl rfl hv)
  · replace hv := hv.1 w1
    refine a_iconst (v := 0) eX5_operand_26 (by decide) ?_
    exact a_iret eX5_operand_27 rfl rfl hv
theorem tX5_numberRead {l : Launch} {G : GT} {d : Nat} {M : Mem} {R : Option Value → Mem → Prop}  (hv : (((M 21 7) - (M 21 6)) ≤ 4 → At l G (d + 4) mX5_numberRead 23 [some (.ref (G.1 21)), some (.int 0), some (.int (M 21 6))] [] M R) ∧ (¬ (((M 21 7) - (M 21 6)) ≤ 4) → R (some (.int (-1000000005))) M)) : Tr l G (d + 4) mX5_numberRead [.ref (G.1 21)] M R := by
  refine Tr.of rfl (Nat.le_of_ble_eq_true rfl) (vs := [some (.ref (G.1 21)), none, none]) rfl ?_
  refine a_aload_n eX5_numberRead_0 rfl ?_
  refine gX5_7 eX5_numberRead_1 fl_X5_28 ?_
  refine a_aload_n eX5_numberRead_4 rfl ?_
  refine gX5_6 eX5_numberRead_5 fl_X5_45 ?_
  refine a_isub eX5_numberRead_8 ?_
  refine a_iconst (v := 4) eX5_numberRead_9 (by decide) ?_
  refine a_icmp_le (tgt := 16) eX5_numberRead_10 (by decide) (fun w1 => ?_) (fun w1 => ?_)
  · replace hv := hv.1 w1
    refine a_iconst (v := 0) eX5_numberRead_16 (by decide) ?_
    refine a_istore_n (vs' := [some (.ref (G.1 21)), some (.int 0), none]) eX5_numberRead_17 rfl (Nat.le_of_ble_eq_true rfl) rfl ?_
    refine a_aload_n eX5_numberRead_18 rfl ?_
    refine gX5_6 eX5_numberRead_19 fl_X5_45 ?_
    refine a_istore_n (vs' := [some (.ref (G.1 21)), some (.int 0), some (.int (M 21 6))]) eX5_numberRead_22 rfl (Nat.le_of_ble_eq_true rfl) rfl ?_
    exact a_weak [true, true, true] rfl rfl hv
  · replace hv := hv.2 w1
    refine a_ldc eX5_numberRead_13 kc_X5_44 ?_
    exact a_iret eX5_numberRead_15 rfl rfl hv
theorem bX5_numberRead_23 {l : Launch} {G : GT} {d : Nat} {M : Mem} {R : Option Value → Mem → Prop} {v1 : Int32} {v2 : Int32} (hv : ((M 21 7) ≤ v2 → R (some (.int v1)) M) ∧ (¬ ((M 21 7) ≤ v2) → vp_in v2 96 ∧ At l G (d + 4) mX5_numberRead 23 [some (.ref (G.1 21)), some (.int (((10 * v1) + (M 22 (ix v2))) - 48)), some (.int (v2 + 1))] [] M R)) : At l G (d + 4) mX5_numberRead 23 [some (.ref (G.1 21)), some (.int v1), some (.int v2)] [] M R := by
  refine a_iload_n eX5_numberRead_23 rfl ?_
  refine a_aload_n eX5_numberRead_24 rfl ?_
  refine gX5_7 eX5_numberRead_25 fl_X5_28 ?_
  refine a_icmp_ge (tgt := 52) eX5_numberRead_28 (by decide) (fun w1 => ?_) (fun w1 => ?_)
  · replace hv := hv.1 w1
    refine a_iload_n eX5_numberRead_52 rfl ?_
    exact a_iret eX5_numberRead_53 rfl rfl hv
  · replace hv := hv.2 w1
    refine a_bipush (v := 10) eX5_numberRead_31 (by decide) ?_
    refine a_iload_n eX5_numberRead_33 rfl ?_
    refine a_imul eX5_numberRead_34 ?_
    refine a_aload_n eX5_numberRead_35 rfl ?_
    refine gX5_0 eX5_numberRead_36 fl_X5_9 ?_
    refine a_iload_n eX5_numberRead_39 rfl ?_
    obtain ⟨h2, hv⟩ := hv
    refine a_iald eX5_numberRead_40 sA22 kA22 h2 ?_
    refine a_iadd eX5_numberRead_41 ?_
    refine a_bipush (v := 48) eX5_numberRead_42 (by decide) ?_
    refine a_isub eX5_numberRead_44 ?_
    refine a_istore_n (vs' := [some (.ref (G.1 21)), some (.int (((10 * v1) + (M 22 (ix v2))) - 48)), some (.int v2)]) eX5_numberRead_45 rfl (Nat.le_of_ble_eq_true rfl) rfl ?_
    refine a_iinc (v := 1) (vs' := [some (.ref (G.1 21)), some (.int (((10 * v1) + (M 22 (ix v2))) - 48)), some (.int (v2 + 1))]) eX5_numberRead_46 rfl rfl (by decide) rfl ?_
    refine a_goto (tgt := 23) eX5_numberRead_49 (by decide) ?_
    exact a_weak [true, true, true] rfl rfl hv
theorem tX5_nameRead {l : Launch} {G : GT} {d : Nat} {M : Mem} {R : Option Value → Mem → Prop}  (hv : ((M 21 5) = 0 → (((M 21 7) - (M 21 6)) = 1 → vp_in (M 21 6) 96 ∧ (∃ i, i < 6 ∧ (G.2.2.2.2.1 3) = G.2.2.2.2.1 i) ∧ Tr l G (d + 3) mJ0_indexOf_0f7a4 [.ref (G.2.2.2.2.1 3), .int (((M 22 (ix (M 21 6))).toUInt32 % 65536).toInt32)] M (kI fun q M' => At l G (d + 4) mX5_nameRead 55 [none, none, none] [.int q] M' R)) ∧ (¬ (((M 21 7) - (M 21 6)) = 1) → R (some (.int (-1000000005))) M)) ∧ (¬ ((M 21 5) = 0) → ((M 21 5) = 1 → (((M 21 7) - (M 21 6)) = 1 → vp_in (M 21 6) 96 ∧ (∃ i, i < 6 ∧ (G.2.2.2.2.1 4) = G.2.2.2.2.1 i) ∧ Tr l G (d + 3) mJ0_indexOf_0f7a4 [.ref (G.2.2.2.2.1 4), .int (((M 22 (ix (M 21 6))).toUInt32 % 65536).toInt32)] M (kI fun q M' => At l G (d + 4) mX5_nameRead 55 [none, none, none] [.int q] M' R)) ∧ (¬ (((M 21 7) - (M 21 6)) = 1) → R (some (.int (-1000000005))) M)) ∧ (¬ ((M 21 5) = 1) → (((M 21 7) - (M 21 6)) = 1 → vp_in (M 21 6) 96 ∧ (∃ i, i < 6 ∧ (G.2.2.2.2.1 5) = G.2.2.2.2.1 i) ∧ Tr l G (d + 3) mJ0_indexOf_0f7a4 [.ref (G.2.2.2.2.1 5), .int (((M 22 (ix (M 21 6))).toUInt32 % 65536).toInt32)] M (kI fun q M' => At l G (d + 4) mX5_nameRead 55 [none, none, none] [.int q] M' R)) ∧ (¬ (((M 21 7) - (M 21 6)) = 1) → R (some (.int (-1000000005))) M)))) : Tr l G (d + 4) mX5_nameRead [.ref (G.1 21)] M R := by
  refine Tr.of rfl (Nat.le_of_ble_eq_true rfl) (vs := [some (.ref (G.1 21)), none, none]) rfl ?_
  refine a_aload_n eX5_nameRead_0 rfl ?_
  refine gX5_5 eX5_nameRead_1 fl_X5_41 ?_
  refine a_if_ne (tgt := 12) eX5_nameRead_4 (by decide) (fun w1 => ?_) (fun w1 => ?_)
  · replace hv := hv.2 w1
    refine a_aload_n eX5_nameRead_12 rfl ?_
    refine gX5_5 eX5_nameRead_13 fl_X5_41 ?_
    refine a_iconst (v := 1) eX5_nameRead_16 (by decide) ?_
    refine a_icmp_ne (tgt := 25) eX5_nameRead_17 (by decide) (fun w2 => ?_) (fun w2 => ?_)
    · replace hv := hv.2 w2
      refine a_ldcS 5 (by decide) eX5_nameRead_25 rfl rfl ?_
      refine a_astore_n (vs' := [some (.ref (G.1 21)), some (.ref (G.2.2.2.2.1 5)), none]) eX5_nameRead_27 rfl (Nat.le_of_ble_eq_true rfl) rfl ?_
      refine a_aload_n eX5_nameRead_28 rfl ?_
      refine gX5_7 eX5_nameRead_29 fl_X5_28 ?_
      refine a_aload_n eX5_nameRead_32 rfl ?_
      refine gX5_6 eX5_nameRead_33 fl_X5_45 ?_
      refine a_isub eX5_nameRead_36 ?_
      refine a_iconst (v := 1) eX5_nameRead_37 (by decide) ?_
      refine a_icmp_ne (tgt := 58) eX5_nameRead_38 (by decide) (fun w3 => ?_) (fun w3 => ?_)
      · replace hv := hv.2 w3
        refine a_iconst (v := (-1)) eX5_nameRead_58 (by decide) ?_
        refine a_istore_n (vs' := [some (.ref (G.1 21)), some (.ref (G.2.2.2.2.1 5)), some (.int (-1))]) eX5_nameRead_59 rfl (Nat.le_of_ble_eq_true rfl) rfl ?_
        refine a_iload_n eX5_nameRead_60 rfl ?_
        refine a_if_ge (tgt := 69) eX5_nameRead_61 (by decide) (fun h => absurd h (by decide)) (fun _ => ?_)
        refine a_ldc eX5_nameRead_64 kc_X5_44 ?_
        refine a_goto (tgt := 74) eX5_nameRead_66 (by decide) ?_
        exact a_iret eX5_nameRead_74 rfl rfl hv
      · replace hv := hv.1 w3
        refine a_aload_n eX5_nameRead_41 rfl ?_
        refine a_aload_n eX5_nameRead_42 rfl ?_
        refine gX5_0 eX5_nameRead_43 fl_X5_9 ?_
        refine a_aload_n eX5_nameRead_46 rfl ?_
        refine gX5_6 eX5_nameRead_47 fl_X5_45 ?_
        obtain ⟨h4, hv⟩ := hv
        refine a_iald eX5_nameRead_50 sA22 kA22 h4 ?_
        refine a_i2c eX5_nameRead_51 ?_
        obtain ⟨h5, hv⟩ := hv
        exact qX5_86 h5 rfl eX5_nameRead_52 (Nat.le_of_ble_eq_true rfl) (tr_I [false, false, false] rfl rfl hv)
    · replace hv := hv.1 w2
      refine a_ldcS 4 (by decide) eX5_nameRead_20 rfl rfl ?_
      refine a_goto (tgt := 27) eX5_nameRead_22 (by decide) ?_
      refine a_astore_n (vs' := [some (.ref (G.1 21)), some (.ref (G.2.2.2.2.1 4)), none]) eX5_nameRead_27 rfl (Nat.le_of_ble_eq_true rfl) rfl ?_
      refine a_aload_n eX5_nameRead_28 rfl ?_
      refine gX5_7 eX5_nameRead_29 fl_X5_28 ?_
      refine a_aload_n eX5_nameRead_32 rfl ?_
      refine gX5_6 eX5_nameRead_33 fl_X5_45 ?_
      refine a_isub eX5_nameRead_36 ?_
      refine a_iconst (v := 1) eX5_nameRead_37 (by decide) ?_
      refine a_icmp_ne (tgt := 58) eX5_nameRead_38 (by decide) (fun w6 => ?_) (fun w6 => ?_)
      · replace hv := hv.2 w6
        refine a_iconst (v := (-1)) eX5_nameRead_58 (by decide) ?_
        refine a_istore_n (vs' := [some (.ref (G.1 21)), some (.ref (G.2.2.2.2.1 4)), some (.int (-1))]) eX5_nameRead_59 rfl (Nat.le_of_ble_eq_true rfl) rfl ?_
        refine a_iload_n eX5_nameRead_60 rfl ?_
        refine a_if_ge (tgt := 69) eX5_nameRead_61 (by decide) (fun h => absurd h (by decide)) (fun _ => ?_)
        refine a_ldc eX5_nameRead_64 kc_X5_44 ?_
        refine a_goto (tgt := 74) eX5_nameRead_66 (by decide) ?_
        exact a_iret eX5_nameRead_74 rfl rfl hv
      · replace hv := hv.1 w6
        refine a_aload_n eX5_nameRead_41 rfl ?_
        refine a_aload_n eX5_nameRead_42 rfl ?_
        refine gX5_0 eX5_nameRead_43 fl_X5_9 ?_
        refine a_aload_n eX5_nameRead_46 rfl ?_
        refine gX5_6 eX5_nameRead_47 fl_X5_45 ?_
        obtain ⟨h7, hv⟩ := hv
        refine a_iald eX5_nameRead_50 sA22 kA22 h7 ?_
        refine a_i2c eX5_nameRead_51 ?_
        obtain ⟨h8, hv⟩ := hv
        exact qX5_86 h8 rfl eX5_nameRead_52 (Nat.le_of_ble_eq_true rfl) (tr_I [false, false, false] rfl rfl hv)
  · replace hv := hv.1 w1
    refine a_ldcS 3 (by decide) eX5_nameRead_7 rfl rfl ?_
    refine a_goto (tgt := 27) eX5_nameRead_9 (by decide) ?_
    refine a_astore_n (vs' := [some (.ref (G.1 21)), some (.ref (G.2.2.2.2.1 3)), none]) eX5_nameRead_27 rfl (Nat.le_of_ble_eq_true rfl) rfl ?_
    refine a_aload_n eX5_nameRead_28 rfl ?_
    refine gX5_7 eX5_nameRead_29 fl_X5_28 ?_
    refine a_aload_n eX5_nameRead_32 rfl ?_
    refine gX5_6 eX5_nameRead_33 fl_X5_45 ?_
    refine a_isub eX5_nameRead_36 ?_
    refine a_iconst (v := 1) eX5_nameRead_37 (by decide) ?_
    refine a_icmp_ne (tgt := 58) eX5_nameRead_38 (by decide) (fun w9 => ?_) (fun w9 => ?_)
    · replace hv := hv.2 w9
      refine a_iconst (v := (-1)) eX5_nameRead_58 (by decide) ?_
      refine a_istore_n (vs' := [some (.ref (G.1 21)), some (.ref (G.2.2.2.2.1 3)), some (.int (-1))]) eX5_nameRead_59 rfl (Nat.le_of_ble_eq_true rfl) rfl ?_
      refine a_iload_n eX5_nameRead_60 rfl ?_
      refine a_if_ge (tgt := 69) eX5_nameRead_61 (by decide) (fun h => absurd h (by decide)) (fun _ => ?_)
      refine a_ldc eX5_nameRead_64 kc_X5_44 ?_
      refine a_goto (tgt := 74) eX5_nameRead_66 (by decide) ?_
      exact a_iret eX5_nameRead_74 rfl rfl hv
    · replace hv := hv.1 w9
      refine a_aload_n eX5_nameRead_41 rfl ?_
      refine a_aload_n eX5_nameRead_42 rfl ?_
      refine gX5_0 eX5_nameRead_43 fl_X5_9 ?_
      refine a_aload_n eX5_nameRead_46 rfl ?_
      refine gX5_6 eX5_nameRead_47 fl_X5_45 ?_
      obtain ⟨h10, hv⟩ := hv
      refine a_iald eX5_nameRead_50 sA22 kA22 h10 ?_
      refine a_i2c eX5_nameRead_51 ?_
      obtain ⟨h11, hv⟩ := hv
      exact qX5_86 h11 rfl eX5_nameRead_52 (Nat.le_of_ble_eq_true rfl) (tr_I [false, false, false] rfl rfl hv)
theorem bX5_nameRead_55 {l : Launch} {G : GT} {d : Nat} {M : Mem} {R : Option Value → Mem → Prop} {r : Int32} (hv : (0 ≤ r → R (some (.int (10000 + r))) M) ∧ (¬ (0 ≤ r) → R (some (.int (-1000000005))) M)) : At l G (d + 4) mX5_nameRead 55 [none, none, none] [.int r] M R := by
  refine a_goto (tgt := 59) eX5_nameRead_55 (by decide) ?_
  refine a_istore_n (vs' := [none, none, some (.int r)]) eX5_nameRead_59 rfl (Nat.le_of_ble_eq_true rfl) rfl ?_
  refine a_iload_n eX5_nameRead_60 rfl ?_
  refine a_if_ge (tgt := 69) eX5_nameRead_61 (by decide) (fun w1 => ?_) (fun w1 => ?_)
  · replace hv := hv.1 w1
    refine a_sipush (v := 10000) eX5_nameRead_69 (by decide) ?_
    refine a_iload_n eX5_nameRead_72 rfl ?_
    refine a_iadd eX5_nameRead_73 ?_
    exact a_iret eX5_nameRead_74 rfl rfl hv
  · replace hv := hv.2 w1
    refine a_ldc eX5_nameRead_64 kc_X5_44 ?_
    refine a_goto (tgt := 74) eX5_nameRead_66 (by decide) ?_
    exact a_iret eX5_nameRead_74 rfl rfl hv
theorem tX5_keyRead {l : Launch} {G : GT} {d : Nat} {M : Mem} {R : Option Value → Mem → Prop}  (hv : Tr l G (d + 3) mX5_isWord [.ref (G.1 21), .ref (G.2.2.2.2.1 0)] M (kI fun q M' => At l G (d + 4) mX5_keyRead 6 [some (.ref (G.1 21))] [.int q] M' R)) : Tr l G (d + 4) mX5_keyRead [.ref (G.1 21)] M R := by
  refine Tr.of rfl (Nat.le_of_ble_eq_true rfl) (vs := [some (.ref (G.1 21))]) rfl ?_
  refine a_aload_n eX5_keyRead_0 rfl ?_
  refine a_ldcS 0 (by decide) eX5_keyRead_1 rfl rfl ?_
  exact qX5_93 rfl eX5_keyRead_3 (Nat.le_of_ble_eq_true rfl) (tr_I [true] rfl rfl hv)
theorem bX5_keyRead_6 {l : Launch} {G : GT} {d : Nat} {M : Mem} {R : Option Value → Mem → Prop} {r : Int32} (hv : (r = 0 → Tr l G (d + 3) mX5_isWord [.ref (G.1 21), .ref (G.2.2.2.2.1 1)] M (kI fun q M' => At l G (d + 4) mX5_keyRead 19 [some (.ref (G.1 21))] [.int q] M' R)) ∧ (¬ (r = 0) → R (some (.int 0)) M)) : At l G (d + 4) mX5_keyRead 6 [some (.ref (G.1 21))] [.int r] M R := by
  refine a_if_eq (tgt := 13) eX5_keyRead_6 (by decide) (fun w1 => ?_) (fun w1 => ?_)
  · replace hv := hv.1 w1
    refine a_aload_n eX5_keyRead_13 rfl ?_
    refine a_ldcS 1 (by decide) eX5_keyRead_14 rfl rfl ?_
    exact qX5_93 rfl eX5_keyRead_16 (Nat.le_of_ble_eq_true rfl) (tr_I [true] rfl rfl hv)
  · replace hv := hv.2 w1
    refine a_iconst (v := 0) eX5_keyRead_9 (by decide) ?_
    refine a_goto (tgt := 41) eX5_keyRead_10 (by decide) ?_
    exact a_iret eX5_keyRead_41 rfl rfl hv
theorem bX5_keyRead_19 {l : Launch} {G : GT} {d : Nat} {M : Mem} {R : Option Value → Mem → Prop} {r : Int32} (hv : (r = 0 → Tr l G (d + 3) mX5_isWord [.ref (G.1 21), .ref (G.2.2.2.2.1 2)] M (kI fun q M' => At l G (d + 4) mX5_keyRead 32 [none] [.int q] M' R)) ∧ (¬ (r = 0) → R (some (.int 1)) M)) : At l G (d + 4) mX5_keyRead 19 [some (.ref (G.1 21))] [.int r] M R := by
  refine a_if_eq (tgt := 26) eX5_keyRead_19 (by decide) (fun w1 => ?_) (fun w1 => ?_)
  · replace hv := hv.1 w1
    refine a_aload_n eX5_keyRead_26 rfl ?_
    refine a_ldcS 2 (by decide) eX5_keyRead_27 rfl rfl ?_
    exact qX5_93 rfl eX5_keyRead_29 (Nat.le_of_ble_eq_true rfl) (tr_I [false] rfl rfl hv)
  · replace hv := hv.2 w1
    refine a_iconst (v := 1) eX5_keyRead_22 (by decide) ?_
    refine a_goto (tgt := 41) eX5_keyRead_23 (by decide) ?_
    exact a_iret eX5_keyRead_41 rfl rfl hv
theorem bX5_keyRead_32 {l : Launch} {G : GT} {d : Nat} {M : Mem} {R : Option Value → Mem → Prop} {r : Int32} (hv : (r = 0 → R (some (.int (-1000000005))) M) ∧ (¬ (r = 0) → R (some (.int 2)) M)) : At l G (d + 4) mX5_keyRead 32 [none] [.int r] M R := by
  refine a_if_eq (tgt := 39) eX5_keyRead_32 (by decide) (fun w1 => ?_) (fun w1 => ?_)
  · replace hv := hv.1 w1
    refine a_ldc eX5_keyRead_39 kc_X5_44 ?_
    exact a_iret eX5_keyRead_41 rfl rfl hv
  · replace hv := hv.2 w1
    refine a_iconst (v := 2) eX5_keyRead_35 (by decide) ?_
    refine a_goto (tgt := 41) eX5_keyRead_36 (by decide) ?_
    exact a_iret eX5_keyRead_41 rfl rfl hv
theorem tX5_isWord {l : Launch} {G : GT} {d : Nat} {M : Mem} {R : Option Value → Mem → Prop} {a1 : Nat} (hv : ((M 21 8) = 1 → (∃ i, i < 6 ∧ a1 = G.2.2.2.2.1 i) ∧ Tr l G (d + 3) mJ0_length_8abf5 [.ref a1] M (kI fun q M' => At l G (d + 4) mX5_isWord 21 [some (.ref (G.1 21)), some (.ref a1), none] [.int q, .int ((M 21 7) - (M 21 6))] M' R)) ∧ (¬ ((M 21 8) = 1) → R (some (.int 0)) M)) : Tr l G (d + 4) mX5_isWord [.ref (G.1 21), .ref a1] M R := by
  refine Tr.of rfl (Nat.le_of_ble_eq_true rfl) (vs := [some (.ref (G.1 21)), some (.ref a1), none]) rfl ?_
  refine a_aload_n eX5_isWord_0 rfl ?_
  refine gX5_8 eX5_isWord_1 fl_X5_31 ?_
  refine a_iconst (v := 1) eX5_isWord_4 (by decide) ?_
  refine a_icmp_ne (tgt := 24) eX5_isWord_5 (by decide) (fun w1 => ?_) (fun w1 => ?_)
  · replace hv := hv.2 w1
    refine a_iconst (v := 0) eX5_isWord_24 (by decide) ?_
    exact a_iret eX5_isWord_25 rfl rfl hv
  · replace hv := hv.1 w1
    refine a_aload_n eX5_isWord_8 rfl ?_
    refine gX5_7 eX5_isWord_9 fl_X5_28 ?_
    refine a_aload_n eX5_isWord_12 rfl ?_
    refine gX5_6 eX5_isWord_13 fl_X5_45 ?_
    refine a_isub eX5_isWord_16 ?_
    refine a_aload_n eX5_isWord_17 rfl ?_
    obtain ⟨h2, hv⟩ := hv
    exact qX5_101 h2 rfl eX5_isWord_18 (Nat.le_of_ble_eq_true rfl) (tr_I [true, true, false] rfl rfl hv)
theorem bX5_isWord_21 {l : Launch} {G : GT} {d : Nat} {M : Mem} {R : Option Value → Mem → Prop} {a1 : Nat} {r : Int32} {t1 : Int32} (hv : (t1 = r → At l G (d + 4) mX5_isWord 28 [some (.ref (G.1 21)), some (.ref a1), some (.int 0)] [] M R) ∧ (¬ (t1 = r) → R (some (.int 0)) M)) : At l G (d + 4) mX5_isWord 21 [some (.ref (G.1 21)), some (.ref a1), none] [.int r, .int t1] M R := by
  refine a_icmp_eq (tgt := 26) eX5_isWord_21 (by decide) (fun w1 => ?_) (fun w1 => ?_)
  · replace hv := hv.1 w1
    refine a_iconst (v := 0) eX5_isWord_26 (by decide) ?_
    refine a_istore_n (vs' := [some (.ref (G.1 21)), some (.ref a1), some (.int 0)]) eX5_isWord_27 rfl (Nat.le_of_ble_eq_true rfl) rfl ?_
    exact a_weak [true, true, true] rfl rfl hv
  · replace hv := hv.2 w1
    refine a_iconst (v := 0) eX5_isWord_24 (by decide) ?_
    exact a_iret eX5_isWord_25 rfl rfl hv
theorem bX5_isWord_28 {l : Launch} {G : GT} {d : Nat} {M : Mem} {R : Option Value → Mem → Prop} {a1 : Nat} {v2 : Int32} (hv : (∃ i, i < 6 ∧ a1 = G.2.2.2.2.1 i) ∧ Tr l G (d + 3) mJ0_length_8abf5 [.ref a1] M (kI fun q M' => At l G (d + 4) mX5_isWord 33 [some (.ref (G.1 21)), some (.ref a1), some (.int v2)] [.int q, .int v2] M' R)) : At l G (d + 4) mX5_isWord 28 [some (.ref (G.1 21)), some (.ref a1), some (.int v2)] [] M R := by
  refine a_iload_n eX5_isWord_28 rfl ?_
  refine a_aload_n eX5_isWord_29 rfl ?_
  obtain ⟨h1, hv⟩ := hv
  exact qX5_101 h1 rfl eX5_isWord_30 (Nat.le_of_ble_eq_true rfl) (tr_I [true, true, true] rfl rfl hv)
theorem bX5_isWord_33 {l : Launch} {G : GT} {d : Nat} {M : Mem} {R : Option Value → Mem → Prop} {a1 : Nat} {v2 : Int32} {r : Int32} {t1 : Int32} (hv : (r ≤ t1 → R (some (.int 1)) M) ∧ (¬ (r ≤ t1) → vp_in ((M 21 6) + v2) 96 ∧ (∃ i, i < 6 ∧ a1 = G.2.2.2.2.1 i) ∧ Tr l G (d + 3) mJ0_charAt_5068e [.ref a1, .int v2] M (kI fun q M' => At l G (d + 4) mX5_isWord 52 [some (.ref (G.1 21)), some (.ref a1), some (.int v2)] [.int q, .int (M 22 (ix ((M 21 6) + v2)))] M' R))) : At l G (d + 4) mX5_isWord 33 [some (.ref (G.1 21)), some (.ref a1), some (.int v2)] [.int r, .int t1] M R := by
  refine a_icmp_ge (tgt := 63) eX5_isWord_33 (by decide) (fun w1 => ?_) (fun w1 => ?_)
  · replace hv := hv.1 w1
    refine a_iconst (v := 1) eX5_isWord_63 (by decide) ?_
    exact a_iret eX5_isWord_64 rfl rfl hv
  · replace hv := hv.2 w1
    refine a_aload_n eX5_isWord_36 rfl ?_
    refine gX5_0 eX5_isWord_37 fl_X5_9 ?_
    refine a_aload_n eX5_isWord_40 rfl ?_
    refine gX5_6 eX5_isWord_41 fl_X5_45 ?_
    refine a_iload_n eX5_isWord_44 rfl ?_
    refine a_iadd eX5_isWord_45 ?_
    obtain ⟨h2, hv⟩ := hv
    refine a_iald eX5_isWord_46 sA22 kA22 h2 ?_
    refine a_aload_n eX5_isWord_47 rfl ?_
    refine a_iload_n eX5_isWord_48 rfl ?_
    obtain ⟨h3, hv⟩ := hv
    exact qX5_103 h3 rfl eX5_isWord_49 (Nat.le_of_ble_eq_true rfl) (tr_I [true, true, true] rfl rfl hv)
theorem bX5_isWord_52 {l : Launch} {G : GT} {d : Nat} {M : Mem} {R : Option Value → Mem → Prop} {a1 : Nat} {v2 : Int32} {r : Int32} {t1 : Int32} (hv : (t1 = r → At l G (d + 4) mX5_isWord 28 [some (.ref (G.1 21)), some (.ref a1), some (.int (v2 + 1))] [] M R) ∧ (¬ (t1 = r) → R (some (.int 0)) M)) : At l G (d + 4) mX5_isWord 52 [some (.ref (G.1 21)), some (.ref a1), some (.int v2)] [.int r, .int t1] M R := by
  refine a_icmp_eq (tgt := 57) eX5_isWord_52 (by decide) (fun w1 => ?_) (fun w1 => ?_)
  · replace hv := hv.1 w1
    refine a_iinc (v := 1) (vs' := [some (.ref (G.1 21)), some (.ref a1), some (.int (v2 + 1))]) eX5_isWord_57 rfl rfl (by decide) rfl ?_
    refine a_goto (tgt := 28) eX5_isWord_60 (by decide) ?_
    exact a_weak [true, true, true] rfl rfl hv
  · replace hv := hv.2 w1
    refine a_iconst (v := 0) eX5_isWord_55 (by decide) ?_
    exact a_iret eX5_isWord_56 rfl rfl hv
theorem tX5_joins {l : Launch} {G : GT} {d : Nat} {M : Mem} {R : Option Value → Mem → Prop} {v0 : Int32} {v1 : Int32} (hv : (v0 = 0 → (v1 = 124 → R (some (.int 1)) M) ∧ (¬ (v1 = 124) → R (some (.int 0)) M)) ∧ (v0 = 1 → (v1 = 38 → R (some (.int 1)) M) ∧ (¬ (v1 = 38) → R (some (.int 0)) M)) ∧ (v0 = 2 → (v1 = 60 → R (some (.int 1)) M) ∧ (¬ (v1 = 60) → (v1 = 61 → R (some (.int 1)) M) ∧ (¬ (v1 = 61) → (v1 = 62 → R (some (.int 1)) M) ∧ (¬ (v1 = 62) → R (some (.int 0)) M)))) ∧ (v0 = 3 → (v1 = 43 → R (some (.int 1)) M) ∧ (¬ (v1 = 43) → (v1 = 45 → R (some (.int 1)) M) ∧ (¬ (v1 = 45) → R (some (.int 0)) M))) ∧ (v0 = 4 → (v1 = 42 → R (some (.int 1)) M) ∧ (¬ (v1 = 42) → (v1 = 47 → R (some (.int 1)) M) ∧ (¬ (v1 = 47) → R (some (.int 0)) M))) ∧ (¬ v0 = 0 → ¬ v0 = 1 → ¬ v0 = 2 → ¬ v0 = 3 → ¬ v0 = 4 → R (some (.int 0)) M)) : Tr l G (d + 4) mX5_joins [.int v0, .int v1] M R := by
  refine Tr.of rfl (Nat.le_of_ble_eq_true rfl) (vs := [some (.int v0), some (.int v1)]) rfl ?_
  refine a_iload_n eX5_joins_0 rfl ?_
  by_cases w2 : v0 = 0
  · refine a_tswIn 0 (tgt := 36) eX5_joins_1 w2 (by decide) (by decide) rfl (by decide) ?_
    replace hv := hv.1 w2
    refine a_iload_n eX5_joins_36 rfl ?_
    refine a_bipush (v := 124) eX5_joins_37 (by decide) ?_
    refine a_icmp_ne (tgt := 46) eX5_joins_39 (by decide) (fun w1 => ?_) (fun w1 => ?_)
    · replace hv := hv.2 w1
      refine a_iconst (v := 0) eX5_joins_46 (by decide) ?_
      exact a_iret eX5_joins_47 rfl rfl hv
    · replace hv := hv.1 w1
      refine a_iconst (v := 1) eX5_joins_42 (by decide) ?_
      refine a_goto (tgt := 47) eX5_joins_43 (by decide) ?_
      exact a_iret eX5_joins_47 rfl rfl hv
  by_cases w4 : v0 = 1
  · refine a_tswIn 1 (tgt := 48) eX5_joins_1 w4 (by decide) (by decide) rfl (by decide) ?_
    replace hv := hv.2.1 w4
    refine a_iload_n eX5_joins_48 rfl ?_
    refine a_bipush (v := 38) eX5_joins_49 (by decide) ?_
    refine a_icmp_ne (tgt := 58) eX5_joins_51 (by decide) (fun w3 => ?_) (fun w3 => ?_)
    · replace hv := hv.2 w3
      refine a_iconst (v := 0) eX5_joins_58 (by decide) ?_
      exact a_iret eX5_joins_59 rfl rfl hv
    · replace hv := hv.1 w3
      refine a_iconst (v := 1) eX5_joins_54 (by decide) ?_
      refine a_goto (tgt := 59) eX5_joins_55 (by decide) ?_
      exact a_iret eX5_joins_59 rfl rfl hv
  by_cases w8 : v0 = 2
  · refine a_tswIn 2 (tgt := 60) eX5_joins_1 w8 (by decide) (by decide) rfl (by decide) ?_
    replace hv := hv.2.2.1 w8
    refine a_iload_n eX5_joins_60 rfl ?_
    refine a_bipush (v := 60) eX5_joins_61 (by decide) ?_
    refine a_icmp_eq (tgt := 78) eX5_joins_63 (by decide) (fun w5 => ?_) (fun w5 => ?_)
    · replace hv := hv.1 w5
      refine a_iconst (v := 1) eX5_joins_78 (by decide) ?_
      refine a_goto (tgt := 83) eX5_joins_79 (by decide) ?_
      exact a_iret eX5_joins_83 rfl rfl hv
    · replace hv := hv.2 w5
      refine a_iload_n eX5_joins_66 rfl ?_
      refine a_bipush (v := 61) eX5_joins_67 (by decide) ?_
      refine a_icmp_eq (tgt := 78) eX5_joins_69 (by decide) (fun w6 => ?_) (fun w6 => ?_)
      · replace hv := hv.1 w6
        refine a_iconst (v := 1) eX5_joins_78 (by decide) ?_
        refine a_goto (tgt := 83) eX5_joins_79 (by decide) ?_
        exact a_iret eX5_joins_83 rfl rfl hv
      · replace hv := hv.2 w6
        refine a_iload_n eX5_joins_72 rfl ?_
        refine a_bipush (v := 62) eX5_joins_73 (by decide) ?_
        refine a_icmp_ne (tgt := 82) eX5_joins_75 (by decide) (fun w7 => ?_) (fun w7 => ?_)
        · replace hv := hv.2 w7
          refine a_iconst (v := 0) eX5_joins_82 (by decide) ?_
          exact a_iret eX5_joins_83 rfl rfl hv
        · replace hv := hv.1 w7
          refine a_iconst (v := 1) eX5_joins_78 (by decide) ?_
          refine a_goto (tgt := 83) eX5_joins_79 (by decide) ?_
          exact a_iret eX5_joins_83 rfl rfl hv
  by_cases w11 : v0 = 3
  · refine a_tswIn 3 (tgt := 84) eX5_joins_1 w11 (by decide) (by decide) rfl (by decide) ?_
    replace hv := hv.2.2.2.1 w11
    refine a_iload_n eX5_joins_84 rfl ?_
    refine a_bipush (v := 43) eX5_joins_85 (by decide) ?_
    refine a_icmp_eq (tgt := 96) eX5_joins_87 (by decide) (fun w9 => ?_) (fun w9 => ?_)
    · replace hv := hv.1 w9
      refine a_iconst (v := 1) eX5_joins_96 (by decide) ?_
      refine a_goto (tgt := 101) eX5_joins_97 (by decide) ?_
      exact a_iret eX5_joins_101 rfl rfl hv
    · replace hv := hv.2 w9
      refine a_iload_n eX5_joins_90 rfl ?_
      refine a_bipush (v := 45) eX5_joins_91 (by decide) ?_
      refine a_icmp_ne (tgt := 100) eX5_joins_93 (by decide) (fun w10 => ?_) (fun w10 => ?_)
      · replace hv := hv.2 w10
        refine a_iconst (v := 0) eX5_joins_100 (by decide) ?_
        exact a_iret eX5_joins_101 rfl rfl hv
      · replace hv := hv.1 w10
        refine a_iconst (v := 1) eX5_joins_96 (by decide) ?_
        refine a_goto (tgt := 101) eX5_joins_97 (by decide) ?_
        exact a_iret eX5_joins_101 rfl rfl hv
  by_cases w14 : v0 = 4
  · refine a_tswIn 4 (tgt := 102) eX5_joins_1 w14 (by decide) (by decide) rfl (by decide) ?_
    replace hv := hv.2.2.2.2.1 w14
    refine a_iload_n eX5_joins_102 rfl ?_
    refine a_bipush (v := 42) eX5_joins_103 (by decide) ?_
    refine a_icmp_eq (tgt := 114) eX5_joins_105 (by decide) (fun w12 => ?_) (fun w12 => ?_)
    · replace hv := hv.1 w12
      refine a_iconst (v := 1) eX5_joins_114 (by decide) ?_
      refine a_goto (tgt := 119) eX5_joins_115 (by decide) ?_
      exact a_iret eX5_joins_119 rfl rfl hv
    · replace hv := hv.2 w12
      refine a_iload_n eX5_joins_108 rfl ?_
      refine a_bipush (v := 47) eX5_joins_109 (by decide) ?_
      refine a_icmp_ne (tgt := 118) eX5_joins_111 (by decide) (fun w13 => ?_) (fun w13 => ?_)
      · replace hv := hv.2 w13
        refine a_iconst (v := 0) eX5_joins_118 (by decide) ?_
        exact a_iret eX5_joins_119 rfl rfl hv
      · replace hv := hv.1 w13
        refine a_iconst (v := 1) eX5_joins_114 (by decide) ?_
        refine a_goto (tgt := 119) eX5_joins_115 (by decide) ?_
        exact a_iret eX5_joins_119 rfl rfl hv
  refine a_tswOut (tgt := 120) eX5_joins_1 (by have zw2 := lv_neT (a := 0) w2 (by decide); have zw4 := lv_neT (a := 1) w4 (by decide); have zw8 := lv_neT (a := 2) w8 (by decide); have zw11 := lv_neT (a := 3) w11 (by decide); have zw14 := lv_neT (a := 4) w14 (by decide); omega) (by decide) ?_
  replace hv := hv.2.2.2.2.2 w2 w4 w8 w11 w14
  refine a_iconst (v := 0) eX5_joins_120 (by decide) ?_
  exact a_iret eX5_joins_121 rfl rfl hv
theorem tX5_put {l : Launch} {G : GT} {d : Nat} {M : Mem} {R : Option Value → Mem → Prop} {v1 : Int32} (hv : (96 ≤ (M 21 3) → R none M) ∧ (¬ (96 ≤ (M 21 3)) → vp_in (M 21 3) 96 ∧ ∀ M3 : Mem, M3 = um (um M 23 (ix (M 21 3)) v1) 21 3 (((um M 23 (ix (M 21 3)) v1) 21 3) + 1) → R none M3)) : Tr l G (d + 4) mX5_put [.ref (G.1 21), .int v1] M R := by
  refine Tr.of rfl (Nat.le_of_ble_eq_true rfl) (vs := [some (.ref (G.1 21)), some (.int v1)]) rfl ?_
  refine a_aload_n eX5_put_0 rfl ?_
  refine gX5_3 eX5_put_1 fl_X5_22 ?_
  refine a_aload_n eX5_put_4 rfl ?_
  refine gX5_2 eX5_put_5 fl_X5_15 ?_
  refine a_alen (v := 96) eX5_put_8 sA23 kA23 (by decide) ?_
  refine a_icmp_ge (tgt := 32) eX5_put_9 (by decide) (fun w1 => ?_) (fun w1 => ?_)
  · replace hv := hv.1 w1
    exact a_vret eX5_put_32 rfl hv
  · replace hv := hv.2 w1
    refine a_aload_n eX5_put_12 rfl ?_
    refine gX5_2 eX5_put_13 fl_X5_15 ?_
    refine a_aload_n eX5_put_16 rfl ?_
    refine gX5_3 eX5_put_17 fl_X5_22 ?_
    refine a_iload_n eX5_put_20 rfl ?_
    obtain ⟨h2, hv⟩ := hv
    refine a_iast eX5_put_21 sA23 kA23 h2 ?_
    refine a_aload_n eX5_put_22 rfl ?_
    refine a_dup eX5_put_23 rfl ?_
    refine gX5_3 eX5_put_24 fl_X5_22 ?_
    refine a_iconst (v := 1) eX5_put_27 (by decide) ?_
    refine a_iadd eX5_put_28 ?_
    refine pX5_3 eX5_put_29 fl_X5_22 ?_
    refine a_nm (fun M3 eM3 => ?_)
    replace hv := hv M3 eM3
    exact a_vret eX5_put_32 rfl hv
theorem tX6_look {l : Launch} {G : GT} {d : Nat} {M : Mem} {R : Option Value → Mem → Prop} {a1 : Nat} (ha1 : IsLd a1) (hv : At l G (d + 4) mX6_look 2 [some (.ref (G.1 60)), some (.ref (G.1 a1)), some (.int 0), none] [] M R) : Tr l G (d + 4) mX6_look [.ref (G.1 60), .ref (G.1 a1)] M R := by
  refine Tr.of rfl (Nat.le_of_ble_eq_true rfl) (vs := [some (.ref (G.1 60)), some (.ref (G.1 a1)), none, none]) rfl ?_
  refine a_iconst (v := 0) eX6_look_0 (by decide) ?_
  refine a_istore_n (vs' := [some (.ref (G.1 60)), some (.ref (G.1 a1)), some (.int 0), none]) eX6_look_1 rfl (Nat.le_of_ble_eq_true rfl) rfl ?_
  exact a_weak [true, true, true, false] rfl rfl hv
theorem bX6_look_2 {l : Launch} {G : GT} {d : Nat} {M : Mem} {R : Option Value → Mem → Prop} {a1 : Nat} (ha1 : IsLd a1) {v2 : Int32} (hv : (8 ≤ v2 → R none M) ∧ (¬ (8 ≤ v2) → At l G (d + 4) mX6_look 10 [some (.ref (G.1 60)), some (.ref (G.1 a1)), some (.int v2), some (.int 0)] [] M R)) : At l G (d + 4) mX6_look 2 [some (.ref (G.1 60)), some (.ref (G.1 a1)), some (.int v2), none] [] M R := by
  refine a_iload_n eX6_look_2 rfl ?_
  refine a_bipush (v := 8) eX6_look_3 (by decide) ?_
  refine a_icmp_ge (tgt := 57) eX6_look_5 (by decide) (fun w1 => ?_) (fun w1 => ?_)
  · replace hv := hv.1 w1
    exact a_vret eX6_look_57 rfl hv
  · replace hv := hv.2 w1
    refine a_iconst (v := 0) eX6_look_8 (by decide) ?_
    refine a_istore_n (vs' := [some (.ref (G.1 60)), some (.ref (G.1 a1)), some (.int v2), some (.int 0)]) eX6_look_9 rfl (Nat.le_of_ble_eq_true rfl) rfl ?_
    exact a_weak [true, true, true, true] rfl rfl hv
theorem bX6_look_10 {l : Launch} {G : GT} {d : Nat} {M : Mem} {R : Option Value → Mem → Prop} {a1 : Nat} (ha1 : IsLd a1) {v2 : Int32} {v3 : Int32} (hv : (10 ≤ v3 → At l G (d + 4) mX6_look 2 [some (.ref (G.1 60)), some (.ref (G.1 a1)), some (.int (v2 + 1)), none] [] M R) ∧ (¬ (10 ≤ v3) → ((M a1 1) ≤ v2 → vp_in ((v2 * 10) + v3) 80 ∧ At l G (d + 4) mX6_look 10 [some (.ref (G.1 60)), some (.ref (G.1 a1)), some (.int v2), some (.int (v3 + 1))] [] (um M 61 (ix ((v2 * 10) + v3)) 0) R) ∧ (¬ ((M a1 1) ≤ v2) → Tr l G (d + 3) mX6_nextPlaces [.ref (G.1 a1), .int v2, .int v3] M (kI fun q M' => At l G (d + 4) mX6_look 40 [some (.ref (G.1 60)), some (.ref (G.1 a1)), some (.int v2), some (.int v3)] [.int q, .int ((v2 * 10) + v3), .ref (G.1 61)] M' R)))) : At l G (d + 4) mX6_look 10 [some (.ref (G.1 60)), some (.ref (G.1 a1)), some (.int v2), some (.int v3)] [] M R := by
  refine a_iload_n eX6_look_10 rfl ?_
  refine a_bipush (v := 10) eX6_look_11 (by decide) ?_
  refine a_icmp_ge (tgt := 51) eX6_look_13 (by decide) (fun w1 => ?_) (fun w1 => ?_)
  · replace hv := hv.1 w1
    refine a_iinc (v := 1) (vs' := [some (.ref (G.1 60)), some (.ref (G.1 a1)), some (.int (v2 + 1)), some (.int v3)]) eX6_look_51 rfl rfl (by decide) rfl ?_
    refine a_goto (tgt := 2) eX6_look_54 (by decide) ?_
    exact a_weak [true, true, true, false] rfl rfl hv
  · replace hv := hv.2 w1
    refine a_aload_n eX6_look_16 rfl ?_
    refine gX6_0 eX6_look_17 fl_X6_9 ?_
    refine a_iload_n eX6_look_20 rfl ?_
    refine a_bipush (v := 10) eX6_look_21 (by decide) ?_
    refine a_imul eX6_look_23 ?_
    refine a_iload_n eX6_look_24 rfl ?_
    refine a_iadd eX6_look_25 ?_
    refine a_iload_n eX6_look_26 rfl ?_
    refine a_aload_n eX6_look_27 rfl ?_
    refine gX1_1 ha1 eX6_look_28 fl_X6_15 ?_
    refine a_icmp_ge (tgt := 43) eX6_look_31 (by decide) (fun w2 => ?_) (fun w2 => ?_)
    · replace hv := hv.1 w2
      refine a_iconst (v := 0) eX6_look_43 (by decide) ?_
      obtain ⟨h3, hv⟩ := hv
      refine a_iast eX6_look_44 sA61 kA61 h3 ?_
      refine a_iinc (v := 1) (vs' := [some (.ref (G.1 60)), some (.ref (G.1 a1)), some (.int v2), some (.int (v3 + 1))]) eX6_look_45 rfl rfl (by decide) rfl ?_
      refine a_goto (tgt := 10) eX6_look_48 (by decide) ?_
      exact a_weak [true, true, true, true] rfl rfl hv
    · replace hv := hv.2 w2
      refine a_aload_n eX6_look_34 rfl ?_
      refine a_iload_n eX6_look_35 rfl ?_
      refine a_iload_n eX6_look_36 rfl ?_
      exact qX6_21 rfl eX6_look_37 (Nat.le_of_ble_eq_true rfl) (tr_I [true, true, true, true] rfl rfl hv)
theorem bX6_look_40 {l : Launch} {G : GT} {d : Nat} {M : Mem} {R : Option Value → Mem → Prop} {a1 : Nat} (ha1 : IsLd a1) {v2 : Int32} {v3 : Int32} {r : Int32} {t1 : Int32} (hv : vp_in t1 80 ∧ At l G (d + 4) mX6_look 10 [some (.ref (G.1 60)), some (.ref (G.1 a1)), some (.int v2), some (.int (v3 + 1))] [] (um M 61 (ix t1) r) R) : At l G (d + 4) mX6_look 40 [some (.ref (G.1 60)), some (.ref (G.1 a1)), some (.int v2), some (.int v3)] [.int r, .int t1, .ref (G.1 61)] M R := by
  refine a_goto (tgt := 44) eX6_look_40 (by decide) ?_
  obtain ⟨h1, hv⟩ := hv
  refine a_iast eX6_look_44 sA61 kA61 h1 ?_
  refine a_iinc (v := 1) (vs' := [some (.ref (G.1 60)), some (.ref (G.1 a1)), some (.int v2), some (.int (v3 + 1))]) eX6_look_45 rfl rfl (by decide) rfl ?_
  refine a_goto (tgt := 10) eX6_look_48 (by decide) ?_
  exact a_weak [true, true, true, true] rfl rfl hv
theorem tX6_nextPlaces {l : Launch} {G : GT} {d : Nat} {M : Mem} {R : Option Value → Mem → Prop} {a0 : Nat} (ha0 : IsLd a0) {v1 : Int32} {v2 : Int32} (hv : Tr l G (d + 3) mX1_readBy [.ref (G.1 a0), .int v1, .int v2] M (kI fun q M' => At l G (d + 4) mX6_nextPlaces 6 [some (.ref (G.1 a0)), none, some (.int v2), none, none, none] [.int q] M' R)) : Tr l G (d + 4) mX6_nextPlaces [.ref (G.1 a0), .int v1, .int v2] M R := by
  refine Tr.of rfl (Nat.le_of_ble_eq_true rfl) (vs := [some (.ref (G.1 a0)), some (.int v1), some (.int v2), none, none, none]) rfl ?_
  refine a_aload_n eX6_nextPlaces_0 rfl ?_
  refine a_iload_n eX6_nextPlaces_1 rfl ?_
  refine a_iload_n eX6_nextPlaces_2 rfl ?_
  exact qX6_25 ha0 rfl eX6_nextPlaces_3 (Nat.le_of_ble_eq_true rfl) (tr_I [true, false, true, false, false, false] rfl rfl hv)
theorem bX6_nextPlaces_6 {l : Launch} {G : GT} {d : Nat} {M : Mem} {R : Option Value → Mem → Prop} {a0 : Nat} (ha0 : IsLd a0) {v2 : Int32} {r : Int32} (hv : vp_in v2 10 ∧ At l G (d + 4) mX6_nextPlaces 25 [some (.ref (G.1 a0)), none, some (.int v2), some (.int ((r &&& (M (a0 + 7) (ix v2))) &&& (M a0 10))), some (.int 0), some (.int 0)] [] M R) : At l G (d + 4) mX6_nextPlaces 6 [some (.ref (G.1 a0)), none, some (.int v2), none, none, none] [.int r] M R := by
  refine a_aload_n eX6_nextPlaces_6 rfl ?_
  refine gX1_9 ha0 eX6_nextPlaces_7 fl_X6_29 ?_
  refine a_iload_n eX6_nextPlaces_10 rfl ?_
  obtain ⟨h1, hv⟩ := hv
  refine a_iald eX6_nextPlaces_11 (ld_7 ha0) (ld_in ha0 7 (by decide)) h1 ?_
  refine a_iand eX6_nextPlaces_12 ?_
  refine a_aload_n eX6_nextPlaces_13 rfl ?_
  refine gX1_10 ha0 eX6_nextPlaces_14 fl_X6_32 ?_
  refine a_iand eX6_nextPlaces_17 ?_
  refine a_istore_n (vs' := [some (.ref (G.1 a0)), none, some (.int v2), some (.int ((r &&& (M (a0 + 7) (ix v2))) &&& (M a0 10))), none, none]) eX6_nextPlaces_18 rfl (Nat.le_of_ble_eq_true rfl) rfl ?_
  refine a_iconst (v := 0) eX6_nextPlaces_19 (by decide) ?_
  refine a_istore (vs' := [some (.ref (G.1 a0)), none, some (.int v2), some (.int ((r &&& (M (a0 + 7) (ix v2))) &&& (M a0 10))), some (.int 0), none]) eX6_nextPlaces_20 rfl (Nat.le_of_ble_eq_true rfl) rfl ?_
  refine a_iconst (v := 0) eX6_nextPlaces_22 (by decide) ?_
  refine a_istore (vs' := [some (.ref (G.1 a0)), none, some (.int v2), some (.int ((r &&& (M (a0 + 7) (ix v2))) &&& (M a0 10))), some (.int 0), some (.int 0)]) eX6_nextPlaces_23 rfl (Nat.le_of_ble_eq_true rfl) rfl ?_
  exact a_weak [true, false, true, true, true, true] rfl rfl hv
theorem bX6_nextPlaces_25 {l : Launch} {G : GT} {d : Nat} {M : Mem} {R : Option Value → Mem → Prop} {a0 : Nat} (ha0 : IsLd a0) {v2 : Int32} {v3 : Int32} {v4 : Int32} {v5 : Int32} (hv : ((M a0 6) ≤ v5 → R (some (.int v4)) M) ∧ (¬ ((M a0 6) ≤ v5) → (((v3 >>> (v5 &&& 31)) &&& 1) = 0 → At l G (d + 4) mX6_nextPlaces 25 [some (.ref (G.1 a0)), none, some (.int v2), some (.int v3), some (.int v4), some (.int (v5 + 1))] [] M R) ∧ (¬ (((v3 >>> (v5 &&& 31)) &&& 1) = 0) → vp_in v5 14 ∧ ((M (a0 + 5) (ix v5)) = v2 → vp_in v5 14 ∧ At l G (d + 4) mX6_nextPlaces 25 [some (.ref (G.1 a0)), none, some (.int v2), some (.int v3), some (.int (v4 ||| ((1 : Int32) <<< ((M (a0 + 6) (ix v5)) &&& 31)))), some (.int (v5 + 1))] [] M R) ∧ (¬ ((M (a0 + 5) (ix v5)) = v2) → vp_in v5 14 ∧ At l G (d + 4) mX6_nextPlaces 25 [some (.ref (G.1 a0)), none, some (.int v2), some (.int v3), some (.int (v4 ||| ((1 : Int32) <<< ((M (a0 + 5) (ix v5)) &&& 31)))), some (.int (v5 + 1))] [] M R)))) : At l G (d + 4) mX6_nextPlaces 25 [some (.ref (G.1 a0)), none, some (.int v2), some (.int v3), some (.int v4), some (.int v5)] [] M R := by
  refine a_iload eX6_nextPlaces_25 rfl ?_
  refine a_aload_n eX6_nextPlaces_27 rfl ?_
  refine gX1_6 ha0 eX6_nextPlaces_28 fl_X6_35 ?_
  refine a_icmp_ge (tgt := 63) eX6_nextPlaces_31 (by decide) (fun w1 => ?_) (fun w1 => ?_)
  · replace hv := hv.1 w1
    refine a_iload eX6_nextPlaces_63 rfl ?_
    exact a_iret eX6_nextPlaces_65 rfl rfl hv
  · replace hv := hv.2 w1
    refine a_iload_n eX6_nextPlaces_34 rfl ?_
    refine a_iload eX6_nextPlaces_35 rfl ?_
    refine qX6_38 rfl eX6_nextPlaces_37 (Nat.le_of_ble_eq_true rfl) ?_
    refine Tr.of rfl (Nat.le_of_ble_eq_true rfl) (vs := [some (.int v3), some (.int v5)]) rfl ?_
    refine a_iload_n eX7_has_0 rfl ?_
    refine a_iload_n eX7_has_1 rfl ?_
    refine a_ishr eX7_has_2 ?_
    refine a_iconst (v := 1) eX7_has_3 (by decide) ?_
    refine a_iand eX7_has_4 ?_
    refine a_if_eq (tgt := 12) eX7_has_5 (by decide) (fun w2 => ?_) (fun w2 => ?_)
    · replace hv := hv.1 w2
      refine a_iconst (v := 0) eX7_has_12 (by decide) ?_
      refine a_iret eX7_has_13 rfl rfl (ret_i ?_)
      refine a_if_eq (tgt := 57) eX6_nextPlaces_40 (by decide) (fun _ => ?_) (fun h => absurd h (by decide))
      refine a_iinc (v := 1) (vs' := [some (.ref (G.1 a0)), none, some (.int v2), some (.int v3), some (.int v4), some (.int (v5 + 1))]) eX6_nextPlaces_57 rfl rfl (by decide) rfl ?_
      refine a_goto (tgt := 25) eX6_nextPlaces_60 (by decide) ?_
      exact a_weak [true, false, true, true, true, true] rfl rfl hv
    · replace hv := hv.2 w2
      refine a_iconst (v := 1) eX7_has_8 (by decide) ?_
      refine a_goto (tgt := 13) eX7_has_9 (by decide) ?_
      refine a_iret eX7_has_13 rfl rfl (ret_i ?_)
      refine a_if_eq (tgt := 57) eX6_nextPlaces_40 (by decide) (fun h => absurd h (by decide)) (fun _ => ?_)
      refine a_iload eX6_nextPlaces_43 rfl ?_
      refine a_iconst (v := 1) eX6_nextPlaces_45 (by decide) ?_
      refine a_aload_n eX6_nextPlaces_46 rfl ?_
      refine a_iload eX6_nextPlaces_47 rfl ?_
      refine a_iload_n eX6_nextPlaces_49 rfl ?_
      refine qX6_42 ha0 rfl eX6_nextPlaces_50 (Nat.le_of_ble_eq_true rfl) ?_
      refine Tr.of rfl (Nat.le_of_ble_eq_true rfl) (vs := [some (.ref (G.1 a0)), some (.int v5), some (.int v2)]) rfl ?_
      refine a_aload_n eX1_otherEnd_0 rfl ?_
      refine gX1_7 ha0 eX1_otherEnd_1 fl_X1_24 ?_
      refine a_iload_n eX1_otherEnd_4 rfl ?_
      obtain ⟨h3, hv⟩ := hv
      refine a_iald eX1_otherEnd_5 (ld_5 ha0) (ld_in ha0 5 (by decide)) h3 ?_
      refine a_iload_n eX1_otherEnd_6 rfl ?_
      refine a_icmp_ne (tgt := 19) eX1_otherEnd_7 (by decide) (fun w4 => ?_) (fun w4 => ?_)
      · replace hv := hv.2 w4
        refine a_aload_n eX1_otherEnd_19 rfl ?_
        refine gX1_7 ha0 eX1_otherEnd_20 fl_X1_24 ?_
        refine a_iload_n eX1_otherEnd_23 rfl ?_
        obtain ⟨h5, hv⟩ := hv
        refine a_iald eX1_otherEnd_24 (ld_5 ha0) (ld_in ha0 5 (by decide)) h5 ?_
        refine a_iret eX1_otherEnd_25 rfl rfl (ret_i ?_)
        refine a_ishl eX6_nextPlaces_53 ?_
        refine a_ior eX6_nextPlaces_54 ?_
        refine a_istore (vs' := [some (.ref (G.1 a0)), none, some (.int v2), some (.int v3), some (.int (v4 ||| ((1 : Int32) <<< ((M (a0 + 5) (ix v5)) &&& 31)))), some (.int v5)]) eX6_nextPlaces_55 rfl (Nat.le_of_ble_eq_true rfl) rfl ?_
        refine a_iinc (v := 1) (vs' := [some (.ref (G.1 a0)), none, some (.int v2), some (.int v3), some (.int (v4 ||| ((1 : Int32) <<< ((M (a0 + 5) (ix v5)) &&& 31)))), some (.int (v5 + 1))]) eX6_nextPlaces_57 rfl rfl (by decide) rfl ?_
        refine a_goto (tgt := 25) eX6_nextPlaces_60 (by decide) ?_
        exact a_weak [true, false, true, true, true, true] rfl rfl hv
      · replace hv := hv.1 w4
        refine a_aload_n eX1_otherEnd_10 rfl ?_
        refine gX1_8 ha0 eX1_otherEnd_11 fl_X1_27 ?_
        refine a_iload_n eX1_otherEnd_14 rfl ?_
        obtain ⟨h6, hv⟩ := hv
        refine a_iald eX1_otherEnd_15 (ld_6 ha0) (ld_in ha0 6 (by decide)) h6 ?_
        refine a_goto (tgt := 25) eX1_otherEnd_16 (by decide) ?_
        refine a_iret eX1_otherEnd_25 rfl rfl (ret_i ?_)
        refine a_ishl eX6_nextPlaces_53 ?_
        refine a_ior eX6_nextPlaces_54 ?_
        refine a_istore (vs' := [some (.ref (G.1 a0)), none, some (.int v2), some (.int v3), some (.int (v4 ||| ((1 : Int32) <<< ((M (a0 + 6) (ix v5)) &&& 31)))), some (.int v5)]) eX6_nextPlaces_55 rfl (Nat.le_of_ble_eq_true rfl) rfl ?_
        refine a_iinc (v := 1) (vs' := [some (.ref (G.1 a0)), none, some (.int v2), some (.int v3), some (.int (v4 ||| ((1 : Int32) <<< ((M (a0 + 6) (ix v5)) &&& 31)))), some (.int (v5 + 1))]) eX6_nextPlaces_57 rfl rfl (by decide) rfl ?_
        refine a_goto (tgt := 25) eX6_nextPlaces_60 (by decide) ?_
        exact a_weak [true, false, true, true, true, true] rfl rfl hv
theorem tX6_oneWayFurther {l : Launch} {G : GT} {d : Nat} {M : Mem} {R : Option Value → Mem → Prop} {v1 : Int32} {v2 : Int32} (hv : At l G (d + 4) mX6_oneWayFurther 5 [some (.ref (G.1 60)), some (.int v1), some (.int v2), some (.int v2), some (.int 0), none] [] M R) : Tr l G (d + 4) mX6_oneWayFurther [.ref (G.1 60), .int v1, .int v2] M R := by
  refine Tr.of rfl (Nat.le_of_ble_eq_true rfl) (vs := [some (.ref (G.1 60)), some (.int v1), some (.int v2), none, none, none]) rfl ?_
  refine a_iload_n eX6_oneWayFurther_0 rfl ?_
  refine a_istore_n (vs' := [some (.ref (G.1 60)), some (.int v1), some (.int v2), some (.int v2), none, none]) eX6_oneWayFurther_1 rfl (Nat.le_of_ble_eq_true rfl) rfl ?_
  refine a_iconst (v := 0) eX6_oneWayFurther_2 (by decide) ?_
  refine a_istore (vs' := [some (.ref (G.1 60)), some (.int v1), some (.int v2), some (.int v2), some (.int 0), none]) eX6_oneWayFurther_3 rfl (Nat.le_of_ble_eq_true rfl) rfl ?_
  exact a_weak [true, true, true, true, true, false] rfl rfl hv
theorem bX6_oneWayFurther_5 {l : Launch} {G : GT} {d : Nat} {M : Mem} {R : Option Value → Mem → Prop} {v1 : Int32} {v2 : Int32} {v3 : Int32} {v4 : Int32} (hv : (8 ≤ v4 → R (some (.int v3)) M) ∧ (¬ (8 ≤ v4) → At l G (d + 4) mX6_oneWayFurther 15 [some (.ref (G.1 60)), some (.int v1), some (.int v2), some (.int v3), some (.int v4), some (.int 0)] [] M R)) : At l G (d + 4) mX6_oneWayFurther 5 [some (.ref (G.1 60)), some (.int v1), some (.int v2), some (.int v3), some (.int v4), none] [] M R := by
  refine a_iload eX6_oneWayFurther_5 rfl ?_
  refine a_bipush (v := 8) eX6_oneWayFurther_7 (by decide) ?_
  refine a_icmp_ge (tgt := 68) eX6_oneWayFurther_9 (by decide) (fun w1 => ?_) (fun w1 => ?_)
  · replace hv := hv.1 w1
    refine a_iload_n eX6_oneWayFurther_68 rfl ?_
    exact a_iret eX6_oneWayFurther_69 rfl rfl hv
  · replace hv := hv.2 w1
    refine a_iconst (v := 0) eX6_oneWayFurther_12 (by decide) ?_
    refine a_istore (vs' := [some (.ref (G.1 60)), some (.int v1), some (.int v2), some (.int v3), some (.int v4), some (.int 0)]) eX6_oneWayFurther_13 rfl (Nat.le_of_ble_eq_true rfl) rfl ?_
    exact a_weak [true, true, true, true, true, true] rfl rfl hv
theorem bX6_oneWayFurther_15 {l : Launch} {G : GT} {d : Nat} {M : Mem} {R : Option Value → Mem → Prop} {v1 : Int32} {v2 : Int32} {v3 : Int32} {v4 : Int32} {v5 : Int32} (hv : (((v1 >>> (v4 &&& 31)) &&& 1) = 0 → At l G (d + 4) mX6_oneWayFurther 5 [some (.ref (G.1 60)), some (.int v1), some (.int v2), some (.int v3), some (.int (v4 + 1)), none] [] M R) ∧ (¬ (((v1 >>> (v4 &&& 31)) &&& 1) = 0) → (10 ≤ v5 → At l G (d + 4) mX6_oneWayFurther 5 [some (.ref (G.1 60)), some (.int v1), some (.int v2), some (.int v3), some (.int (v4 + 1)), none] [] M R) ∧ (¬ (10 ≤ v5) → (((v2 >>> (v5 &&& 31)) &&& 1) = 0 → At l G (d + 4) mX6_oneWayFurther 15 [some (.ref (G.1 60)), some (.int v1), some (.int v2), some (.int v3), some (.int v4), some (.int (v5 + 1))] [] M R) ∧ (¬ (((v2 >>> (v5 &&& 31)) &&& 1) = 0) → vp_in ((v4 * 10) + v5) 80 ∧ At l G (d + 4) mX6_oneWayFurther 15 [some (.ref (G.1 60)), some (.int v1), some (.int v2), some (.int (v3 ||| (M 61 (ix ((v4 * 10) + v5))))), some (.int v4), some (.int (v5 + 1))] [] M R)))) : At l G (d + 4) mX6_oneWayFurther 15 [some (.ref (G.1 60)), some (.int v1), some (.int v2), some (.int v3), some (.int v4), some (.int v5)] [] M R := by
  refine a_iload_n eX6_oneWayFurther_15 rfl ?_
  refine a_iload eX6_oneWayFurther_16 rfl ?_
  refine qX6_38 rfl eX6_oneWayFurther_18 (Nat.le_of_ble_eq_true rfl) ?_
  refine Tr.of rfl (Nat.le_of_ble_eq_true rfl) (vs := [some (.int v1), some (.int v4)]) rfl ?_
  refine a_iload_n eX7_has_0 rfl ?_
  refine a_iload_n eX7_has_1 rfl ?_
  refine a_ishr eX7_has_2 ?_
  refine a_iconst (v := 1) eX7_has_3 (by decide) ?_
  refine a_iand eX7_has_4 ?_
  refine a_if_eq (tgt := 12) eX7_has_5 (by decide) (fun w1 => ?_) (fun w1 => ?_)
  · replace hv := hv.1 w1
    refine a_iconst (v := 0) eX7_has_12 (by decide) ?_
    refine a_iret eX7_has_13 rfl rfl (ret_i ?_)
    refine a_if_eq (tgt := 62) eX6_oneWayFurther_21 (by decide) (fun _ => ?_) (fun h => absurd h (by decide))
    refine a_iinc (v := 1) (vs' := [some (.ref (G.1 60)), some (.int v1), some (.int v2), some (.int v3), some (.int (v4 + 1)), some (.int v5)]) eX6_oneWayFurther_62 rfl rfl (by decide) rfl ?_
    refine a_goto (tgt := 5) eX6_oneWayFurther_65 (by decide) ?_
    exact a_weak [true, true, true, true, true, false] rfl rfl hv
  · replace hv := hv.2 w1
    refine a_iconst (v := 1) eX7_has_8 (by decide) ?_
    refine a_goto (tgt := 13) eX7_has_9 (by decide) ?_
    refine a_iret eX7_has_13 rfl rfl (ret_i ?_)
    refine a_if_eq (tgt := 62) eX6_oneWayFurther_21 (by decide) (fun h => absurd h (by decide)) (fun _ => ?_)
    refine a_iload eX6_oneWayFurther_24 rfl ?_
    refine a_bipush (v := 10) eX6_oneWayFurther_26 (by decide) ?_
    refine a_icmp_ge (tgt := 62) eX6_oneWayFurther_28 (by decide) (fun w2 => ?_) (fun w2 => ?_)
    · replace hv := hv.1 w2
      refine a_iinc (v := 1) (vs' := [some (.ref (G.1 60)), some (.int v1), some (.int v2), some (.int v3), some (.int (v4 + 1)), some (.int v5)]) eX6_oneWayFurther_62 rfl rfl (by decide) rfl ?_
      refine a_goto (tgt := 5) eX6_oneWayFurther_65 (by decide) ?_
      exact a_weak [true, true, true, true, true, false] rfl rfl hv
    · replace hv := hv.2 w2
      refine a_iload_n eX6_oneWayFurther_31 rfl ?_
      refine a_iload eX6_oneWayFurther_32 rfl ?_
      refine qX6_38 rfl eX6_oneWayFurther_34 (Nat.le_of_ble_eq_true rfl) ?_
      refine Tr.of rfl (Nat.le_of_ble_eq_true rfl) (vs := [some (.int v2), some (.int v5)]) rfl ?_
      refine a_iload_n eX7_has_0 rfl ?_
      refine a_iload_n eX7_has_1 rfl ?_
      refine a_ishr eX7_has_2 ?_
      refine a_iconst (v := 1) eX7_has_3 (by decide) ?_
      refine a_iand eX7_has_4 ?_
      refine a_if_eq (tgt := 12) eX7_has_5 (by decide) (fun w3 => ?_) (fun w3 => ?_)
      · replace hv := hv.1 w3
        refine a_iconst (v := 0) eX7_has_12 (by decide) ?_
        refine a_iret eX7_has_13 rfl rfl (ret_i ?_)
        refine a_if_eq (tgt := 56) eX6_oneWayFurther_37 (by decide) (fun _ => ?_) (fun h => absurd h (by decide))
        refine a_iinc (v := 1) (vs' := [some (.ref (G.1 60)), some (.int v1), some (.int v2), some (.int v3), some (.int v4), some (.int (v5 + 1))]) eX6_oneWayFurther_56 rfl rfl (by decide) rfl ?_
        refine a_goto (tgt := 15) eX6_oneWayFurther_59 (by decide) ?_
        exact a_weak [true, true, true, true, true, true] rfl rfl hv
      · replace hv := hv.2 w3
        refine a_iconst (v := 1) eX7_has_8 (by decide) ?_
        refine a_goto (tgt := 13) eX7_has_9 (by decide) ?_
        refine a_iret eX7_has_13 rfl rfl (ret_i ?_)
        refine a_if_eq (tgt := 56) eX6_oneWayFurther_37 (by decide) (fun h => absurd h (by decide)) (fun _ => ?_)
        refine a_iload_n eX6_oneWayFurther_40 rfl ?_
        refine a_aload_n eX6_oneWayFurther_41 rfl ?_
        refine gX6_0 eX6_oneWayFurther_42 fl_X6_9 ?_
        refine a_iload eX6_oneWayFurther_45 rfl ?_
        refine a_bipush (v := 10) eX6_oneWayFurther_47 (by decide) ?_
        refine a_imul eX6_oneWayFurther_49 ?_
        refine a_iload eX6_oneWayFurther_50 rfl ?_
        refine a_iadd eX6_oneWayFurther_52 ?_
        obtain ⟨h4, hv⟩ := hv
        refine a_iald eX6_oneWayFurther_53 sA61 kA61 h4 ?_
        refine a_ior eX6_oneWayFurther_54 ?_
        refine a_istore_n (vs' := [some (.ref (G.1 60)), some (.int v1), some (.int v2), some (.int (v3 ||| (M 61 (ix ((v4 * 10) + v5))))), some (.int v4), some (.int v5)]) eX6_oneWayFurther_55 rfl (Nat.le_of_ble_eq_true rfl) rfl ?_
        refine a_iinc (v := 1) (vs' := [some (.ref (G.1 60)), some (.int v1), some (.int v2), some (.int (v3 ||| (M 61 (ix ((v4 * 10) + v5))))), some (.int v4), some (.int (v5 + 1))]) eX6_oneWayFurther_56 rfl rfl (by decide) rfl ?_
        refine a_goto (tgt := 15) eX6_oneWayFurther_59 (by decide) ?_
        exact a_weak [true, true, true, true, true, true] rfl rfl hv
theorem tX6_reached {l : Launch} {G : GT} {d : Nat} {M : Mem} {R : Option Value → Mem → Prop} {v1 : Int32} {v2 : Int32} (hv : At l G (d + 4) mX6_reached 7 [some (.ref (G.1 60)), some (.int v1), none, some (.int ((1 : Int32) <<< (v2 &&& 31))), some (.int 1)] [] M R) : Tr l G (d + 4) mX6_reached [.ref (G.1 60), .int v1, .int v2] M R := by
  refine Tr.of rfl (Nat.le_of_ble_eq_true rfl) (vs := [some (.ref (G.1 60)), some (.int v1), some (.int v2), none, none]) rfl ?_
  refine a_iconst (v := 1) eX6_reached_0 (by decide) ?_
  refine a_iload_n eX6_reached_1 rfl ?_
  refine a_ishl eX6_reached_2 ?_
  refine a_istore_n (vs' := [some (.ref (G.1 60)), some (.int v1), some (.int v2), some (.int ((1 : Int32) <<< (v2 &&& 31))), none]) eX6_reached_3 rfl (Nat.le_of_ble_eq_true rfl) rfl ?_
  refine a_iconst (v := 1) eX6_reached_4 (by decide) ?_
  refine a_istore (vs' := [some (.ref (G.1 60)), some (.int v1), some (.int v2), some (.int ((1 : Int32) <<< (v2 &&& 31))), some (.int 1)]) eX6_reached_5 rfl (Nat.le_of_ble_eq_true rfl) rfl ?_
  exact a_weak [true, true, false, true, true] rfl rfl hv
theorem bX6_reached_7 {l : Launch} {G : GT} {d : Nat} {M : Mem} {R : Option Value → Mem → Prop} {v1 : Int32} {v3 : Int32} {v4 : Int32} (hv : (10 ≤ v4 → R (some (.int v3)) M) ∧ (¬ (10 ≤ v4) → Tr l G (d + 3) mX6_oneWayFurther [.ref (G.1 60), .int v1, .int v3] M (kI fun q M' => At l G (d + 4) mX6_reached 20 [some (.ref (G.1 60)), some (.int v1), none, none, some (.int v4)] [.int q] M' R))) : At l G (d + 4) mX6_reached 7 [some (.ref (G.1 60)), some (.int v1), none, some (.int v3), some (.int v4)] [] M R := by
  refine a_iload eX6_reached_7 rfl ?_
  refine a_bipush (v := 10) eX6_reached_9 (by decide) ?_
  refine a_icmp_ge (tgt := 27) eX6_reached_11 (by decide) (fun w1 => ?_) (fun w1 => ?_)
  · replace hv := hv.1 w1
    refine a_iload_n eX6_reached_27 rfl ?_
    exact a_iret eX6_reached_28 rfl rfl hv
  · replace hv := hv.2 w1
    refine a_aload_n eX6_reached_14 rfl ?_
    refine a_iload_n eX6_reached_15 rfl ?_
    refine a_iload_n eX6_reached_16 rfl ?_
    exact qX6_45 rfl eX6_reached_17 (Nat.le_of_ble_eq_true rfl) (tr_I [true, true, false, false, true] rfl rfl hv)
theorem bX6_reached_20 {l : Launch} {G : GT} {d : Nat} {M : Mem} {R : Option Value → Mem → Prop} {v1 : Int32} {v4 : Int32} {r : Int32} (hv : At l G (d + 4) mX6_reached 7 [some (.ref (G.1 60)), some (.int v1), none, some (.int r), some (.int (v4 + 1))] [] M R) : At l G (d + 4) mX6_reached 20 [some (.ref (G.1 60)), some (.int v1), none, none, some (.int v4)] [.int r] M R := by
  refine a_istore_n (vs' := [some (.ref (G.1 60)), some (.int v1), none, some (.int r), some (.int v4)]) eX6_reached_20 rfl (Nat.le_of_ble_eq_true rfl) rfl ?_
  refine a_iinc (v := 1) (vs' := [some (.ref (G.1 60)), some (.int v1), none, some (.int r), some (.int (v4 + 1))]) eX6_reached_21 rfl rfl (by decide) rfl ?_
  refine a_goto (tgt := 7) eX6_reached_24 (by decide) ?_
  exact a_weak [true, true, false, true, true] rfl rfl hv
theorem tX6_fewestWays {l : Launch} {G : GT} {d : Nat} {M : Mem} {R : Option Value → Mem → Prop} {v1 : Int32} {v2 : Int32} {v3 : Int32} (hv : At l G (d + 4) mX6_fewestWays 8 [some (.ref (G.1 60)), some (.int v1), none, some (.int v3), some (.int ((1 : Int32) <<< (v2 &&& 31))), some (.int 0)] [] M R) : Tr l G (d + 4) mX6_fewestWays [.ref (G.1 60), .int v1, .int v2, .int v3] M R := by
  refine Tr.of rfl (Nat.le_of_ble_eq_true rfl) (vs := [some (.ref (G.1 60)), some (.int v1), some (.int v2), some (.int v3), none, none]) rfl ?_
  refine a_iconst (v := 1) eX6_fewestWays_0 (by decide) ?_
  refine a_iload_n eX6_fewestWays_1 rfl ?_
  refine a_ishl eX6_fewestWays_2 ?_
  refine a_istore (vs' := [some (.ref (G.1 60)), some (.int v1), some (.int v2), some (.int v3), some (.int ((1 : Int32) <<< (v2 &&& 31))), none]) eX6_fewestWays_3 rfl (Nat.le_of_ble_eq_true rfl) rfl ?_
  refine a_iconst (v := 0) eX6_fewestWays_5 (by decide) ?_
  refine a_istore (vs' := [some (.ref (G.1 60)), some (.int v1), some (.int v2), some (.int v3), some (.int ((1 : Int32) <<< (v2 &&& 31))), some (.int 0)]) eX6_fewestWays_6 rfl (Nat.le_of_ble_eq_true rfl) rfl ?_
  exact a_weak [true, true, false, true, true, true] rfl rfl hv
theorem bX6_fewestWays_8 {l : Launch} {G : GT} {d : Nat} {M : Mem} {R : Option Value → Mem → Prop} {v1 : Int32} {v3 : Int32} {v4 : Int32} {v5 : Int32} (hv : (10 ≤ v5 → R (some (.int (-1000000005))) M) ∧ (¬ (10 ≤ v5) → (((v4 >>> (v3 &&& 31)) &&& 1) = 0 → Tr l G (d + 3) mX6_oneWayFurther [.ref (G.1 60), .int v1, .int v4] M (kI fun q M' => At l G (d + 4) mX6_fewestWays 34 [some (.ref (G.1 60)), some (.int v1), none, some (.int v3), none, some (.int v5)] [.int q] M' R)) ∧ (¬ (((v4 >>> (v3 &&& 31)) &&& 1) = 0) → R (some (.int v5)) M))) : At l G (d + 4) mX6_fewestWays 8 [some (.ref (G.1 60)), some (.int v1), none, some (.int v3), some (.int v4), some (.int v5)] [] M R := by
  refine a_iload eX6_fewestWays_8 rfl ?_
  refine a_bipush (v := 10) eX6_fewestWays_10 (by decide) ?_
  refine a_icmp_ge (tgt := 42) eX6_fewestWays_12 (by decide) (fun w1 => ?_) (fun w1 => ?_)
  · replace hv := hv.1 w1
    refine a_ldc eX6_fewestWays_42 kc_X6_48 ?_
    exact a_iret eX6_fewestWays_44 rfl rfl hv
  · replace hv := hv.2 w1
    refine a_iload eX6_fewestWays_15 rfl ?_
    refine a_iload_n eX6_fewestWays_17 rfl ?_
    refine qX6_38 rfl eX6_fewestWays_18 (Nat.le_of_ble_eq_true rfl) ?_
    refine Tr.of rfl (Nat.le_of_ble_eq_true rfl) (vs := [some (.int v4), some (.int v3)]) rfl ?_
    refine a_iload_n eX7_has_0 rfl ?_
    refine a_iload_n eX7_has_1 rfl ?_
    refine a_ishr eX7_has_2 ?_
    refine a_iconst (v := 1) eX7_has_3 (by decide) ?_
    refine a_iand eX7_has_4 ?_
    refine a_if_eq (tgt := 12) eX7_has_5 (by decide) (fun w2 => ?_) (fun w2 => ?_)
    · replace hv := hv.1 w2
      refine a_iconst (v := 0) eX7_has_12 (by decide) ?_
      refine a_iret eX7_has_13 rfl rfl (ret_i ?_)
      refine a_if_eq (tgt := 27) eX6_fewestWays_21 (by decide) (fun _ => ?_) (fun h => absurd h (by decide))
      refine a_aload_n eX6_fewestWays_27 rfl ?_
      refine a_iload_n eX6_fewestWays_28 rfl ?_
      refine a_iload eX6_fewestWays_29 rfl ?_
      exact qX6_45 rfl eX6_fewestWays_31 (Nat.le_of_ble_eq_true rfl) (tr_I [true, true, false, true, false, true] rfl rfl hv)
    · replace hv := hv.2 w2
      refine a_iconst (v := 1) eX7_has_8 (by decide) ?_
      refine a_goto (tgt := 13) eX7_has_9 (by decide) ?_
      refine a_iret eX7_has_13 rfl rfl (ret_i ?_)
      refine a_if_eq (tgt := 27) eX6_fewestWays_21 (by decide) (fun h => absurd h (by decide)) (fun _ => ?_)
      refine a_iload eX6_fewestWays_24 rfl ?_
      exact a_iret eX6_fewestWays_26 rfl rfl hv
theorem bX6_fewestWays_34 {l : Launch} {G : GT} {d : Nat} {M : Mem} {R : Option Value → Mem → Prop} {v1 : Int32} {v3 : Int32} {v5 : Int32} {r : Int32} (hv : At l G (d + 4) mX6_fewestWays 8 [some (.ref (G.1 60)), some (.int v1), none, some (.int v3), some (.int r), some (.int (v5 + 1))] [] M R) : At l G (d + 4) mX6_fewestWays 34 [some (.ref (G.1 60)), some (.int v1), none, some (.int v3), none, some (.int v5)] [.int r] M R := by
  refine a_istore (vs' := [some (.ref (G.1 60)), some (.int v1), none, some (.int v3), some (.int r), some (.int v5)]) eX6_fewestWays_34 rfl (Nat.le_of_ble_eq_true rfl) rfl ?_
  refine a_iinc (v := 1) (vs' := [some (.ref (G.1 60)), some (.int v1), none, some (.int v3), some (.int r), some (.int (v5 + 1))]) eX6_fewestWays_36 rfl rfl (by decide) rfl ?_
  refine a_goto (tgt := 8) eX6_fewestWays_39 (by decide) ?_
  exact a_weak [true, true, false, true, true, true] rfl rfl hv
theorem tX6_fewestOf {l : Launch} {G : GT} {d : Nat} {M : Mem} {R : Option Value → Mem → Prop} {v1 : Int32} {v2 : Int32} {v3 : Int32} (hv : (v2 = v3 → R (some (.int 0)) M) ∧ (¬ (v2 = v3) → Tr l G (d + 3) mX6_fewestWays [.ref (G.1 60), .int v1, .int v2, .int v3] M (kI fun q M' => At l G (d + 4) mX6_fewestOf 14 [some (.ref (G.1 60)), some (.int v1), some (.int v2), some (.int v3), none, none, none] [.int q] M' R))) : Tr l G (d + 4) mX6_fewestOf [.ref (G.1 60), .int v1, .int v2, .int v3] M R := by
  refine Tr.of rfl (Nat.le_of_ble_eq_true rfl) (vs := [some (.ref (G.1 60)), some (.int v1), some (.int v2), some (.int v3), none, none, none]) rfl ?_
  refine a_iload_n eX6_fewestOf_0 rfl ?_
  refine a_iload_n eX6_fewestOf_1 rfl ?_
  refine a_icmp_ne (tgt := 7) eX6_fewestOf_2 (by decide) (fun w1 => ?_) (fun w1 => ?_)
  · replace hv := hv.2 w1
    refine a_aload_n eX6_fewestOf_7 rfl ?_
    refine a_iload_n eX6_fewestOf_8 rfl ?_
    refine a_iload_n eX6_fewestOf_9 rfl ?_
    refine a_iload_n eX6_fewestOf_10 rfl ?_
    exact qX6_49 rfl eX6_fewestOf_11 (Nat.le_of_ble_eq_true rfl) (tr_I [true, true, true, true, false, false, false] rfl rfl hv)
  · replace hv := hv.1 w1
    refine a_iconst (v := 0) eX6_fewestOf_5 (by decide) ?_
    exact a_iret eX6_fewestOf_6 rfl rfl hv
theorem bX6_fewestOf_14 {l : Launch} {G : GT} {d : Nat} {M : Mem} {R : Option Value → Mem → Prop} {v1 : Int32} {v2 : Int32} {v3 : Int32} {r : Int32} (hv : (r = (-1000000005) → R (some (.int (-1000000005))) M) ∧ (¬ (r = (-1000000005)) → At l G (d + 4) mX6_fewestOf 28 [some (.ref (G.1 60)), some (.int v1), some (.int v2), some (.int v3), some (.int v1), some (.int 1), none] [] M R)) : At l G (d + 4) mX6_fewestOf 14 [some (.ref (G.1 60)), some (.int v1), some (.int v2), some (.int v3), none, none, none] [.int r] M R := by
  refine a_ldc eX6_fewestOf_14 kc_X6_48 ?_
  refine a_icmp_ne (tgt := 22) eX6_fewestOf_16 (by decide) (fun w1 => ?_) (fun w1 => ?_)
  · replace hv := hv.2 w1
    refine a_iload_n eX6_fewestOf_22 rfl ?_
    refine a_istore (vs' := [some (.ref (G.1 60)), some (.int v1), some (.int v2), some (.int v3), some (.int v1), none, none]) eX6_fewestOf_23 rfl (Nat.le_of_ble_eq_true rfl) rfl ?_
    refine a_iconst (v := 1) eX6_fewestOf_25 (by decide) ?_
    refine a_istore (vs' := [some (.ref (G.1 60)), some (.int v1), some (.int v2), some (.int v3), some (.int v1), some (.int 1), none]) eX6_fewestOf_26 rfl (Nat.le_of_ble_eq_true rfl) rfl ?_
    exact a_weak [true, true, true, true, true, true, false] rfl rfl hv
  · replace hv := hv.1 w1
    refine a_ldc eX6_fewestOf_19 kc_X6_48 ?_
    exact a_iret eX6_fewestOf_21 rfl rfl hv
theorem bX6_fewestOf_28 {l : Launch} {G : GT} {d : Nat} {M : Mem} {R : Option Value → Mem → Prop} {v1 : Int32} {v2 : Int32} {v3 : Int32} {v4 : Int32} {v5 : Int32} (hv : (v1 ≤ v5 → R (some (.int v4)) M) ∧ (¬ (v1 ≤ v5) → ((v5 &&& (v1 ^^^ (-1))) = 0 → Tr l G (d + 3) mJ6_bitCount_0f7a4 [.int v5] M (kI fun q M' => At l G (d + 4) mX6_fewestOf 48 [some (.ref (G.1 60)), some (.int v1), some (.int v2), some (.int v3), some (.int v4), some (.int v5), none] [.int q] M' R)) ∧ (¬ ((v5 &&& (v1 ^^^ (-1))) = 0) → At l G (d + 4) mX6_fewestOf 28 [some (.ref (G.1 60)), some (.int v1), some (.int v2), some (.int v3), some (.int v4), some (.int (v5 + 1)), none] [] M R))) : At l G (d + 4) mX6_fewestOf 28 [some (.ref (G.1 60)), some (.int v1), some (.int v2), some (.int v3), some (.int v4), some (.int v5), none] [] M R := by
  refine a_iload eX6_fewestOf_28 rfl ?_
  refine a_iload_n eX6_fewestOf_30 rfl ?_
  refine a_icmp_ge (tgt := 91) eX6_fewestOf_31 (by decide) (fun w1 => ?_) (fun w1 => ?_)
  · replace hv := hv.1 w1
    refine a_iload eX6_fewestOf_91 rfl ?_
    exact a_iret eX6_fewestOf_93 rfl rfl hv
  · replace hv := hv.2 w1
    refine a_iload eX6_fewestOf_34 rfl ?_
    refine a_iload_n eX6_fewestOf_36 rfl ?_
    refine a_iconst (v := (-1)) eX6_fewestOf_37 (by decide) ?_
    refine a_ixor eX6_fewestOf_38 ?_
    refine a_iand eX6_fewestOf_39 ?_
    refine a_if_ne (tgt := 60) eX6_fewestOf_40 (by decide) (fun w2 => ?_) (fun w2 => ?_)
    · replace hv := hv.2 w2
      refine a_iconst (v := 0) eX6_fewestOf_60 (by decide) ?_
      refine a_istore (vs' := [some (.ref (G.1 60)), some (.int v1), some (.int v2), some (.int v3), some (.int v4), some (.int v5), some (.int 0)]) eX6_fewestOf_61 rfl (Nat.le_of_ble_eq_true rfl) rfl ?_
      refine a_iload eX6_fewestOf_63 rfl ?_
      refine a_if_eq (tgt := 85) eX6_fewestOf_65 (by decide) (fun _ => ?_) (fun h => absurd h (by decide))
      refine a_iinc (v := 1) (vs' := [some (.ref (G.1 60)), some (.int v1), some (.int v2), some (.int v3), some (.int v4), some (.int (v5 + 1)), some (.int 0)]) eX6_fewestOf_85 rfl rfl (by decide) rfl ?_
      refine a_goto (tgt := 28) eX6_fewestOf_88 (by decide) ?_
      exact a_weak [true, true, true, true, true, true, false] rfl rfl hv
    · replace hv := hv.1 w2
      refine a_iload eX6_fewestOf_43 rfl ?_
      exact qX6_53 rfl eX6_fewestOf_45 (Nat.le_of_ble_eq_true rfl) (tr_I [true, true, true, true, true, true, false] rfl rfl hv)
theorem bX6_fewestOf_48 {l : Launch} {G : GT} {d : Nat} {M : Mem} {R : Option Value → Mem → Prop} {v1 : Int32} {v2 : Int32} {v3 : Int32} {v4 : Int32} {v5 : Int32} {r : Int32} (hv : Tr l G (d + 3) mJ6_bitCount_0f7a4 [.int v4] M (kI fun q M' => At l G (d + 4) mX6_fewestOf 53 [some (.ref (G.1 60)), some (.int v1), some (.int v2), some (.int v3), some (.int v4), some (.int v5), none] [.int q, .int r] M' R)) : At l G (d + 4) mX6_fewestOf 48 [some (.ref (G.1 60)), some (.int v1), some (.int v2), some (.int v3), some (.int v4), some (.int v5), none] [.int r] M R := by
  refine a_iload eX6_fewestOf_48 rfl ?_
  exact qX6_53 rfl eX6_fewestOf_50 (Nat.le_of_ble_eq_true rfl) (tr_I [true, true, true, true, true, true, false] rfl rfl hv)
theorem bX6_fewestOf_53 {l : Launch} {G : GT} {d : Nat} {M : Mem} {R : Option Value → Mem → Prop} {v1 : Int32} {v2 : Int32} {v3 : Int32} {v4 : Int32} {v5 : Int32} {r : Int32} {t1 : Int32} (hv : (r ≤ t1 → At l G (d + 4) mX6_fewestOf 28 [some (.ref (G.1 60)), some (.int v1), some (.int v2), some (.int v3), some (.int v4), some (.int (v5 + 1)), none] [] M R) ∧ (¬ (r ≤ t1) → Tr l G (d + 3) mX6_fewestWays [.ref (G.1 60), .int v5, .int v2, .int v3] M (kI fun q M' => At l G (d + 4) mX6_fewestOf 76 [some (.ref (G.1 60)), some (.int v1), some (.int v2), some (.int v3), some (.int v4), some (.int v5), none] [.int q] M' R))) : At l G (d + 4) mX6_fewestOf 53 [some (.ref (G.1 60)), some (.int v1), some (.int v2), some (.int v3), some (.int v4), some (.int v5), none] [.int r, .int t1] M R := by
  refine a_icmp_ge (tgt := 60) eX6_fewestOf_53 (by decide) (fun w1 => ?_) (fun w1 => ?_)
  · replace hv := hv.1 w1
    refine a_iconst (v := 0) eX6_fewestOf_60 (by decide) ?_
    refine a_istore (vs' := [some (.ref (G.1 60)), some (.int v1), some (.int v2), some (.int v3), some (.int v4), some (.int v5), some (.int 0)]) eX6_fewestOf_61 rfl (Nat.le_of_ble_eq_true rfl) rfl ?_
    refine a_iload eX6_fewestOf_63 rfl ?_
    refine a_if_eq (tgt := 85) eX6_fewestOf_65 (by decide) (fun _ => ?_) (fun h => absurd h (by decide))
    refine a_iinc (v := 1) (vs' := [some (.ref (G.1 60)), some (.int v1), some (.int v2), some (.int v3), some (.int v4), some (.int (v5 + 1)), some (.int 0)]) eX6_fewestOf_85 rfl rfl (by decide) rfl ?_
    refine a_goto (tgt := 28) eX6_fewestOf_88 (by decide) ?_
    exact a_weak [true, true, true, true, true, true, false] rfl rfl hv
  · replace hv := hv.2 w1
    refine a_iconst (v := 1) eX6_fewestOf_56 (by decide) ?_
    refine a_goto (tgt := 61) eX6_fewestOf_57 (by decide) ?_
    refine a_istore (vs' := [some (.ref (G.1 60)), some (.int v1), some (.int v2), some (.int v3), some (.int v4), some (.int v5), some (.int 1)]) eX6_fewestOf_61 rfl (Nat.le_of_ble_eq_true rfl) rfl ?_
    refine a_iload eX6_fewestOf_63 rfl ?_
    refine a_if_eq (tgt := 85) eX6_fewestOf_65 (by decide) (fun h => absurd h (by decide)) (fun _ => ?_)
    refine a_aload_n eX6_fewestOf_68 rfl ?_
    refine a_iload eX6_fewestOf_69 rfl ?_
    refine a_iload_n eX6_fewestOf_71 rfl ?_
    refine a_iload_n eX6_fewestOf_72 rfl ?_
    exact qX6_49 rfl eX6_fewestOf_73 (Nat.le_of_ble_eq_true rfl) (tr_I [true, true, true, true, true, true, false] rfl rfl hv)
theorem bX6_fewestOf_76 {l : Launch} {G : GT} {d : Nat} {M : Mem} {R : Option Value → Mem → Prop} {v1 : Int32} {v2 : Int32} {v3 : Int32} {v4 : Int32} {v5 : Int32} {r : Int32} (hv : (r = (-1000000005) → At l G (d + 4) mX6_fewestOf 28 [some (.ref (G.1 60)), some (.int v1), some (.int v2), some (.int v3), some (.int v4), some (.int (v5 + 1)), none] [] M R) ∧ (¬ (r = (-1000000005)) → At l G (d + 4) mX6_fewestOf 28 [some (.ref (G.1 60)), some (.int v1), some (.int v2), some (.int v3), some (.int v5), some (.int (v5 + 1)), none] [] M R)) : At l G (d + 4) mX6_fewestOf 76 [some (.ref (G.1 60)), some (.int v1), some (.int v2), some (.int v3), some (.int v4), some (.int v5), none] [.int r] M R := by
  refine a_ldc eX6_fewestOf_76 kc_X6_48 ?_
  refine a_icmp_eq (tgt := 85) eX6_fewestOf_78 (by decide) (fun w1 => ?_) (fun w1 => ?_)
  · replace hv := hv.1 w1
    refine a_iinc (v := 1) (vs' := [some (.ref (G.1 60)), some (.int v1), some (.int v2), some (.int v3), some (.int v4), some (.int (v5 + 1)), none]) eX6_fewestOf_85 rfl rfl (by decide) rfl ?_
    refine a_goto (tgt := 28) eX6_fewestOf_88 (by decide) ?_
    exact a_weak [true, true, true, true, true, true, false] rfl rfl hv
  · replace hv := hv.2 w1
    refine a_iload eX6_fewestOf_81 rfl ?_
    refine a_istore (vs' := [some (.ref (G.1 60)), some (.int v1), some (.int v2), some (.int v3), some (.int v5), some (.int v5), none]) eX6_fewestOf_83 rfl (Nat.le_of_ble_eq_true rfl) rfl ?_
    refine a_iinc (v := 1) (vs' := [some (.ref (G.1 60)), some (.int v1), some (.int v2), some (.int v3), some (.int v5), some (.int (v5 + 1)), none]) eX6_fewestOf_85 rfl rfl (by decide) rfl ?_
    refine a_goto (tgt := 28) eX6_fewestOf_88 (by decide) ?_
    exact a_weak [true, true, true, true, true, true, false] rfl rfl hv
