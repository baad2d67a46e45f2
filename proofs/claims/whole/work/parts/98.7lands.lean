theorem k_X1_30 {l : Launch} {g : GT} {N0 : Nat} (ad : Nat → Nat) : TrC l g N0 1 8 73 mX1_init [.ref (ad 30), .ref (ad 1)] 48 71 ad := by
  refine TrC.of (by decide +kernel) (Nat.le_of_ble_eq_true rfl) (vs := [some (.ref (ad 30)), some (.ref (ad 1))]) rfl ?_
  refine c_aload_n (t := 48) (cs := 0) (ss := 0) eX1_init_0 rfl ?_
  refine c_obj (t := 48) (cs := 0) (ss := 0) eX1_init_1 om_X1 (by decide) (Nat.le_of_ble_eq_true rfl) ?_
  refine c_aload_n (t := 48) (cs := 0) (ss := 0) eX1_init_4 rfl ?_
  refine c_bipush (t := 48) (cs := 0) (ss := 0) (v := 8) eX1_init_5 (by decide +kernel) ?_
  refine c_newa (t := 48) (cs := 0) (ss := 0) (k := 31) (N := 8) eX1_init_7 rfl (by decide) (by decide) (by decide) (by decide) (by decide) T_48 (fun ad1 hd1 => ?_)
  rw [← hd1 1 (by decide +kernel), ← hd1 30 (by decide +kernel)]
  refine c_putF (t := 49) (cs := 1) (ss := 8) (k := 30) (ci := 0) (i := 2) eX1_init_9 rfl (by decide +kernel) rfl (by decide) iX1 tyX1 tyX1_ok nmX1 fl_X1_9 (by decide) rfl rfl rfl (ty := .array .int) rfl rfl rfl T_49 ⟨by decide, rfl⟩ (cel_putR T_49 rfl rfl) ?_
  refine c_aload_n (t := 50) (cs := 1) (ss := 8) eX1_init_12 rfl ?_
  refine c_bipush (t := 50) (cs := 1) (ss := 8) (v := 8) eX1_init_13 (by decide +kernel) ?_
  refine c_newa (t := 50) (cs := 1) (ss := 8) (k := 32) (N := 8) eX1_init_15 rfl (by decide) (by decide) (by decide) (by decide) (by decide) T_50 (fun ad2 hd2 => ?_)
  rw [← hd2 1 (by decide +kernel), ← hd2 30 (by decide +kernel)]
  refine c_putF (t := 51) (cs := 2) (ss := 16) (k := 30) (ci := 0) (i := 3) eX1_init_17 rfl (by decide +kernel) rfl (by decide) iX1 tyX1 tyX1_ok nmX1 fl_X1_15 (by decide) rfl rfl rfl (ty := .array .int) rfl rfl rfl T_51 ⟨by decide, rfl⟩ (cel_putR T_51 rfl rfl) ?_
  refine c_aload_n (t := 52) (cs := 2) (ss := 16) eX1_init_20 rfl ?_
  refine c_bipush (t := 52) (cs := 2) (ss := 16) (v := 8) eX1_init_21 (by decide +kernel) ?_
  refine c_newa (t := 52) (cs := 2) (ss := 16) (k := 33) (N := 8) eX1_init_23 rfl (by decide) (by decide) (by decide) (by decide) (by decide) T_52 (fun ad3 hd3 => ?_)
  rw [← hd3 1 (by decide +kernel), ← hd3 30 (by decide +kernel)]
  refine c_putF (t := 53) (cs := 3) (ss := 24) (k := 30) (ci := 0) (i := 4) eX1_init_25 rfl (by decide +kernel) rfl (by decide) iX1 tyX1 tyX1_ok nmX1 fl_X1_18 (by decide) rfl rfl rfl (ty := .array .int) rfl rfl rfl T_53 ⟨by decide, rfl⟩ (cel_putR T_53 rfl rfl) ?_
  refine c_aload_n (t := 54) (cs := 3) (ss := 24) eX1_init_28 rfl ?_
  refine c_bipush (t := 54) (cs := 3) (ss := 24) (v := 8) eX1_init_29 (by decide +kernel) ?_
  refine c_newa (t := 54) (cs := 3) (ss := 24) (k := 34) (N := 8) eX1_init_31 rfl (by decide) (by decide) (by decide) (by decide) (by decide) T_54 (fun ad4 hd4 => ?_)
  rw [← hd4 1 (by decide +kernel), ← hd4 30 (by decide +kernel)]
  refine c_putF (t := 55) (cs := 4) (ss := 32) (k := 30) (ci := 0) (i := 5) eX1_init_33 rfl (by decide +kernel) rfl (by decide) iX1 tyX1 tyX1_ok nmX1 fl_X1_21 (by decide) rfl rfl rfl (ty := .array .int) rfl rfl rfl T_55 ⟨by decide, rfl⟩ (cel_putR T_55 rfl rfl) ?_
  refine c_aload_n (t := 56) (cs := 4) (ss := 32) eX1_init_36 rfl ?_
  refine c_bipush (t := 56) (cs := 4) (ss := 32) (v := 14) eX1_init_37 (by decide +kernel) ?_
  refine c_newa (t := 56) (cs := 4) (ss := 32) (k := 35) (N := 14) eX1_init_39 rfl (by decide) (by decide) (by decide) (by decide) (by decide) T_56 (fun ad5 hd5 => ?_)
  rw [← hd5 1 (by decide +kernel), ← hd5 30 (by decide +kernel)]
  refine c_putF (t := 57) (cs := 5) (ss := 46) (k := 30) (ci := 0) (i := 7) eX1_init_41 rfl (by decide +kernel) rfl (by decide) iX1 tyX1 tyX1_ok nmX1 fl_X1_24 (by decide) rfl rfl rfl (ty := .array .int) rfl rfl rfl T_57 ⟨by decide, rfl⟩ (cel_putR T_57 rfl rfl) ?_
  refine c_aload_n (t := 58) (cs := 5) (ss := 46) eX1_init_44 rfl ?_
  refine c_bipush (t := 58) (cs := 5) (ss := 46) (v := 14) eX1_init_45 (by decide +kernel) ?_
  refine c_newa (t := 58) (cs := 5) (ss := 46) (k := 36) (N := 14) eX1_init_47 rfl (by decide) (by decide) (by decide) (by decide) (by decide) T_58 (fun ad6 hd6 => ?_)
  rw [← hd6 1 (by decide +kernel), ← hd6 30 (by decide +kernel)]
  refine c_putF (t := 59) (cs := 6) (ss := 60) (k := 30) (ci := 0) (i := 8) eX1_init_49 rfl (by decide +kernel) rfl (by decide) iX1 tyX1 tyX1_ok nmX1 fl_X1_27 (by decide) rfl rfl rfl (ty := .array .int) rfl rfl rfl T_59 ⟨by decide, rfl⟩ (cel_putR T_59 rfl rfl) ?_
  refine c_aload_n (t := 60) (cs := 6) (ss := 60) eX1_init_52 rfl ?_
  refine c_bipush (t := 60) (cs := 6) (ss := 60) (v := 10) eX1_init_53 (by decide +kernel) ?_
  refine c_newa (t := 60) (cs := 6) (ss := 60) (k := 37) (N := 10) eX1_init_55 rfl (by decide) (by decide) (by decide) (by decide) (by decide) T_60 (fun ad7 hd7 => ?_)
  rw [← hd7 1 (by decide +kernel), ← hd7 30 (by decide +kernel)]
  refine c_putF (t := 61) (cs := 7) (ss := 70) (k := 30) (ci := 0) (i := 9) eX1_init_57 rfl (by decide +kernel) rfl (by decide) iX1 tyX1 tyX1_ok nmX1 fl_X1_30 (by decide) rfl rfl rfl (ty := .array .int) rfl rfl rfl T_61 ⟨by decide, rfl⟩ (cel_putR T_61 rfl rfl) ?_
  refine c_aload_n (t := 62) (cs := 7) (ss := 70) eX1_init_60 rfl ?_
  refine c_bipush (t := 62) (cs := 7) (ss := 70) (v := 60) eX1_init_61 (by decide +kernel) ?_
  refine c_put (t := 62) (cs := 7) (ss := 70) (k := 30) (ci := 0) (i := 11) eX1_init_63 rfl (by decide +kernel) rfl (by decide) iX1 tyX1 tyX1_ok nmX1 fl_X1_33 (by decide) rfl (ty := .int) rfl rfl rfl T_62 ⟨by decide, rfl⟩ (cel_putI T_62 rfl rfl) ?_
  refine c_aload_n (t := 63) (cs := 7) (ss := 70) eX1_init_66 rfl ?_
  refine c_bipush (t := 63) (cs := 7) (ss := 70) (v := 10) eX1_init_67 (by decide +kernel) ?_
  refine c_put (t := 63) (cs := 7) (ss := 70) (k := 30) (ci := 0) (i := 12) eX1_init_69 rfl (by decide +kernel) rfl (by decide) iX1 tyX1 tyX1_ok nmX1 fl_X1_37 (by decide) rfl (ty := .int) rfl rfl rfl T_63 ⟨by decide, rfl⟩ (cel_putI T_63 rfl rfl) ?_
  refine c_aload_n (t := 64) (cs := 7) (ss := 70) eX1_init_72 rfl ?_
  refine c_iconst (t := 64) (cs := 7) (ss := 70) (v := 1) eX1_init_73 (by decide +kernel) ?_
  refine c_put (t := 64) (cs := 7) (ss := 70) (k := 30) (ci := 0) (i := 17) eX1_init_74 rfl (by decide +kernel) rfl (by decide) iX1 tyX1 tyX1_ok nmX1 fl_X1_40 (by decide) rfl (ty := .int) rfl rfl rfl T_64 ⟨by decide, rfl⟩ (cel_putI T_64 rfl rfl) ?_
  refine c_aload_n (t := 65) (cs := 7) (ss := 70) eX1_init_77 rfl ?_
  refine c_iconst (t := 65) (cs := 7) (ss := 70) (v := 3) eX1_init_78 (by decide +kernel) ?_
  refine c_newa (t := 65) (cs := 7) (ss := 70) (k := 38) (N := 3) eX1_init_79 rfl (by decide) (by decide) (by decide) (by decide) (by decide) T_65 (fun ad8 hd8 => ?_)
  rw [← hd8 1 (by decide +kernel), ← hd8 30 (by decide +kernel)]
  refine c_dup (t := 66) (cs := 8) (ss := 73) eX1_init_81 rfl ?_
  refine c_iconst (t := 66) (cs := 8) (ss := 73) (v := 0) eX1_init_82 (by decide +kernel) ?_
  refine c_ldc (t := 66) (cs := 8) (ss := 73) eX1_init_83 kc_X1_43 ?_
  refine c_iast (t := 66) (cs := 8) (ss := 73) (k := 38) eX1_init_85 rfl (by decide +kernel) (by unfold vp_in; decide) T_66 ?_
  refine c_dup (t := 67) (cs := 8) (ss := 73) eX1_init_86 rfl ?_
  refine c_iconst (t := 67) (cs := 8) (ss := 73) (v := 1) eX1_init_87 (by decide +kernel) ?_
  refine c_ldc (t := 67) (cs := 8) (ss := 73) eX1_init_88 kc_X1_43 ?_
  refine c_iast (t := 67) (cs := 8) (ss := 73) (k := 38) eX1_init_90 rfl (by decide +kernel) (by unfold vp_in; decide) T_67 ?_
  refine c_dup (t := 68) (cs := 8) (ss := 73) eX1_init_91 rfl ?_
  refine c_iconst (t := 68) (cs := 8) (ss := 73) (v := 2) eX1_init_92 (by decide +kernel) ?_
  refine c_ldc (t := 68) (cs := 8) (ss := 73) eX1_init_93 kc_X1_43 ?_
  refine c_iast (t := 68) (cs := 8) (ss := 73) (k := 38) eX1_init_95 rfl (by decide +kernel) (by unfold vp_in; decide) T_68 ?_
  refine c_putF (t := 69) (cs := 8) (ss := 73) (k := 30) (ci := 0) (i := 19) eX1_init_96 rfl (by decide +kernel) rfl (by decide) iX1 tyX1 tyX1_ok nmX1 fl_X1_44 (by decide) rfl rfl rfl (ty := .array .int) rfl rfl rfl T_69 ⟨by decide, rfl⟩ (cel_putR T_69 rfl rfl) ?_
  refine c_aload_n (t := 70) (cs := 8) (ss := 73) eX1_init_99 rfl ?_
  refine c_aload_n (t := 70) (cs := 8) (ss := 73) eX1_init_100 rfl ?_
  refine c_putF (t := 70) (cs := 8) (ss := 73) (k := 30) (ci := 0) (i := 0) eX1_init_101 rfl (by decide +kernel) rfl (by decide) iX1 tyX1 tyX1_ok nmX1 fl_X1_47 (by decide) rfl rfl rfl (ty := .object "TattooRoads$Laws") rfl rfl rfl T_70 ⟨by decide, rfl⟩ (cel_putR T_70 rfl rfl) ?_
  exact c_ret (t := 71) (cs := 8) (ss := 73) (st := []) eX1_init_104 rfl rfl rfl rfl
theorem k_X1_40 {l : Launch} {g : GT} {N0 : Nat} (ad : Nat → Nat) : TrC l g N0 1 8 73 mX1_init [.ref (ad 40), .ref (ad 1)] 73 96 ad := by
  refine TrC.of (by decide +kernel) (Nat.le_of_ble_eq_true rfl) (vs := [some (.ref (ad 40)), some (.ref (ad 1))]) rfl ?_
  refine c_aload_n (t := 73) (cs := 0) (ss := 0) eX1_init_0 rfl ?_
  refine c_obj (t := 73) (cs := 0) (ss := 0) eX1_init_1 om_X1 (by decide) (Nat.le_of_ble_eq_true rfl) ?_
  refine c_aload_n (t := 73) (cs := 0) (ss := 0) eX1_init_4 rfl ?_
  refine c_bipush (t := 73) (cs := 0) (ss := 0) (v := 8) eX1_init_5 (by decide +kernel) ?_
  refine c_newa (t := 73) (cs := 0) (ss := 0) (k := 41) (N := 8) eX1_init_7 rfl (by decide) (by decide) (by decide) (by decide) (by decide) T_73 (fun ad1 hd1 => ?_)
  rw [← hd1 1 (by decide +kernel), ← hd1 40 (by decide +kernel)]
  refine c_putF (t := 74) (cs := 1) (ss := 8) (k := 40) (ci := 0) (i := 2) eX1_init_9 rfl (by decide +kernel) rfl (by decide) iX1 tyX1 tyX1_ok nmX1 fl_X1_9 (by decide) rfl rfl rfl (ty := .array .int) rfl rfl rfl T_74 ⟨by decide, rfl⟩ (cel_putR T_74 rfl rfl) ?_
  refine c_aload_n (t := 75) (cs := 1) (ss := 8) eX1_init_12 rfl ?_
  refine c_bipush (t := 75) (cs := 1) (ss := 8) (v := 8) eX1_init_13 (by decide +kernel) ?_
  refine c_newa (t := 75) (cs := 1) (ss := 8) (k := 42) (N := 8) eX1_init_15 rfl (by decide) (by decide) (by decide) (by decide) (by decide) T_75 (fun ad2 hd2 => ?_)
  rw [← hd2 1 (by decide +kernel), ← hd2 40 (by decide +kernel)]
  refine c_putF (t := 76) (cs := 2) (ss := 16) (k := 40) (ci := 0) (i := 3) eX1_init_17 rfl (by decide +kernel) rfl (by decide) iX1 tyX1 tyX1_ok nmX1 fl_X1_15 (by decide) rfl rfl rfl (ty := .array .int) rfl rfl rfl T_76 ⟨by decide, rfl⟩ (cel_putR T_76 rfl rfl) ?_
  refine c_aload_n (t := 77) (cs := 2) (ss := 16) eX1_init_20 rfl ?_
  refine c_bipush (t := 77) (cs := 2) (ss := 16) (v := 8) eX1_init_21 (by decide +kernel) ?_
  refine c_newa (t := 77) (cs := 2) (ss := 16) (k := 43) (N := 8) eX1_init_23 rfl (by decide) (by decide) (by decide) (by decide) (by decide) T_77 (fun ad3 hd3 => ?_)
  rw [← hd3 1 (by decide +kernel), ← hd3 40 (by decide +kernel)]
  refine c_putF (t := 78) (cs := 3) (ss := 24) (k := 40) (ci := 0) (i := 4) eX1_init_25 rfl (by decide +kernel) rfl (by decide) iX1 tyX1 tyX1_ok nmX1 fl_X1_18 (by decide) rfl rfl rfl (ty := .array .int) rfl rfl rfl T_78 ⟨by decide, rfl⟩ (cel_putR T_78 rfl rfl) ?_
  refine c_aload_n (t := 79) (cs := 3) (ss := 24) eX1_init_28 rfl ?_
  refine c_bipush (t := 79) (cs := 3) (ss := 24) (v := 8) eX1_init_29 (by decide +kernel) ?_
  refine c_newa (t := 79) (cs := 3) (ss := 24) (k := 44) (N := 8) eX1_init_31 rfl (by decide) (by decide) (by decide) (by decide) (by decide) T_79 (fun ad4 hd4 => ?_)
  rw [← hd4 1 (by decide +kernel), ← hd4 40 (by decide +kernel)]
  refine c_putF (t := 80) (cs := 4) (ss := 32) (k := 40) (ci := 0) (i := 5) eX1_init_33 rfl (by decide +kernel) rfl (by decide) iX1 tyX1 tyX1_ok nmX1 fl_X1_21 (by decide) rfl rfl rfl (ty := .array .int) rfl rfl rfl T_80 ⟨by decide, rfl⟩ (cel_putR T_80 rfl rfl) ?_
  refine c_aload_n (t := 81) (cs := 4) (ss := 32) eX1_init_36 rfl ?_
  refine c_bipush (t := 81) (cs := 4) (ss := 32) (v := 14) eX1_init_37 (by decide +kernel) ?_
  refine c_newa (t := 81) (cs := 4) (ss := 32) (k := 45) (N := 14) eX1_init_39 rfl (by decide) (by decide) (by decide) (by decide) (by decide) T_81 (fun ad5 hd5 => ?_)
  rw [← hd5 1 (by decide +kernel), ← hd5 40 (by decide +kernel)]
  refine c_putF (t := 82) (cs := 5) (ss := 46) (k := 40) (ci := 0) (i := 7) eX1_init_41 rfl (by decide +kernel) rfl (by decide) iX1 tyX1 tyX1_ok nmX1 fl_X1_24 (by decide) rfl rfl rfl (ty := .array .int) rfl rfl rfl T_82 ⟨by decide, rfl⟩ (cel_putR T_82 rfl rfl) ?_
  refine c_aload_n (t := 83) (cs := 5) (ss := 46) eX1_init_44 rfl ?_
  refine c_bipush (t := 83) (cs := 5) (ss := 46) (v := 14) eX1_init_45 (by decide +kernel) ?_
  refine c_newa (t := 83) (cs := 5) (ss := 46) (k := 46) (N := 14) eX1_init_47 rfl (by decide) (by decide) (by decide) (by decide) (by decide) T_83 (fun ad6 hd6 => ?_)
  rw [← hd6 1 (by decide +kernel), ← hd6 40 (by decide +kernel)]
  refine c_putF (t := 84) (cs := 6) (ss := 60) (k := 40) (ci := 0) (i := 8) eX1_init_49 rfl (by decide +kernel) rfl (by decide) iX1 tyX1 tyX1_ok nmX1 fl_X1_27 (by decide) rfl rfl rfl (ty := .array .int) rfl rfl rfl T_84 ⟨by decide, rfl⟩ (cel_putR T_84 rfl rfl) ?_
  refine c_aload_n (t := 85) (cs := 6) (ss := 60) eX1_init_52 rfl ?_
  refine c_bipush (t := 85) (cs := 6) (ss := 60) (v := 10) eX1_init_53 (by decide +kernel) ?_
  refine c_newa (t := 85) (cs := 6) (ss := 60) (k := 47) (N := 10) eX1_init_55 rfl (by decide) (by decide) (by decide) (by decide) (by decide) T_85 (fun ad7 hd7 => ?_)
  rw [← hd7 1 (by decide +kernel), ← hd7 40 (by decide +kernel)]
  refine c_putF (t := 86) (cs := 7) (ss := 70) (k := 40) (ci := 0) (i := 9) eX1_init_57 rfl (by decide +kernel) rfl (by decide) iX1 tyX1 tyX1_ok nmX1 fl_X1_30 (by decide) rfl rfl rfl (ty := .array .int) rfl rfl rfl T_86 ⟨by decide, rfl⟩ (cel_putR T_86 rfl rfl) ?_
  refine c_aload_n (t := 87) (cs := 7) (ss := 70) eX1_init_60 rfl ?_
  refine c_bipush (t := 87) (cs := 7) (ss := 70) (v := 60) eX1_init_61 (by decide +kernel) ?_
  refine c_put (t := 87) (cs := 7) (ss := 70) (k := 40) (ci := 0) (i := 11) eX1_init_63 rfl (by decide +kernel) rfl (by decide) iX1 tyX1 tyX1_ok nmX1 fl_X1_33 (by decide) rfl (ty := .int) rfl rfl rfl T_87 ⟨by decide, rfl⟩ (cel_putI T_87 rfl rfl) ?_
  refine c_aload_n (t := 88) (cs := 7) (ss := 70) eX1_init_66 rfl ?_
  refine c_bipush (t := 88) (cs := 7) (ss := 70) (v := 10) eX1_init_67 (by decide +kernel) ?_
  refine c_put (t := 88) (cs := 7) (ss := 70) (k := 40) (ci := 0) (i := 12) eX1_init_69 rfl (by decide +kernel) rfl (by decide) iX1 tyX1 tyX1_ok nmX1 fl_X1_37 (by decide) rfl (ty := .int) rfl rfl rfl T_88 ⟨by decide, rfl⟩ (cel_putI T_88 rfl rfl) ?_
  refine c_aload_n (t := 89) (cs := 7) (ss := 70) eX1_init_72 rfl ?_
  refine c_iconst (t := 89) (cs := 7) (ss := 70) (v := 1) eX1_init_73 (by decide +kernel) ?_
  refine c_put (t := 89) (cs := 7) (ss := 70) (k := 40) (ci := 0) (i := 17) eX1_init_74 rfl (by decide +kernel) rfl (by decide) iX1 tyX1 tyX1_ok nmX1 fl_X1_40 (by decide) rfl (ty := .int) rfl rfl rfl T_89 ⟨by decide, rfl⟩ (cel_putI T_89 rfl rfl) ?_
  refine c_aload_n (t := 90) (cs := 7) (ss := 70) eX1_init_77 rfl ?_
  refine c_iconst (t := 90) (cs := 7) (ss := 70) (v := 3) eX1_init_78 (by decide +kernel) ?_
  refine c_newa (t := 90) (cs := 7) (ss := 70) (k := 48) (N := 3) eX1_init_79 rfl (by decide) (by decide) (by decide) (by decide) (by decide) T_90 (fun ad8 hd8 => ?_)
  rw [← hd8 1 (by decide +kernel), ← hd8 40 (by decide +kernel)]
  refine c_dup (t := 91) (cs := 8) (ss := 73) eX1_init_81 rfl ?_
  refine c_iconst (t := 91) (cs := 8) (ss := 73) (v := 0) eX1_init_82 (by decide +kernel) ?_
  refine c_ldc (t := 91) (cs := 8) (ss := 73) eX1_init_83 kc_X1_43 ?_
  refine c_iast (t := 91) (cs := 8) (ss := 73) (k := 48) eX1_init_85 rfl (by decide +kernel) (by unfold vp_in; decide) T_91 ?_
  refine c_dup (t := 92) (cs := 8) (ss := 73) eX1_init_86 rfl ?_
  refine c_iconst (t := 92) (cs := 8) (ss := 73) (v := 1) eX1_init_87 (by decide +kernel) ?_
  refine c_ldc (t := 92) (cs := 8) (ss := 73) eX1_init_88 kc_X1_43 ?_
  refine c_iast (t := 92) (cs := 8) (ss := 73) (k := 48) eX1_init_90 rfl (by decide +kernel) (by unfold vp_in; decide) T_92 ?_
  refine c_dup (t := 93) (cs := 8) (ss := 73) eX1_init_91 rfl ?_
  refine c_iconst (t := 93) (cs := 8) (ss := 73) (v := 2) eX1_init_92 (by decide +kernel) ?_
  refine c_ldc (t := 93) (cs := 8) (ss := 73) eX1_init_93 kc_X1_43 ?_
  refine c_iast (t := 93) (cs := 8) (ss := 73) (k := 48) eX1_init_95 rfl (by decide +kernel) (by unfold vp_in; decide) T_93 ?_
  refine c_putF (t := 94) (cs := 8) (ss := 73) (k := 40) (ci := 0) (i := 19) eX1_init_96 rfl (by decide +kernel) rfl (by decide) iX1 tyX1 tyX1_ok nmX1 fl_X1_44 (by decide) rfl rfl rfl (ty := .array .int) rfl rfl rfl T_94 ⟨by decide, rfl⟩ (cel_putR T_94 rfl rfl) ?_
  refine c_aload_n (t := 95) (cs := 8) (ss := 73) eX1_init_99 rfl ?_
  refine c_aload_n (t := 95) (cs := 8) (ss := 73) eX1_init_100 rfl ?_
  refine c_putF (t := 95) (cs := 8) (ss := 73) (k := 40) (ci := 0) (i := 0) eX1_init_101 rfl (by decide +kernel) rfl (by decide) iX1 tyX1 tyX1_ok nmX1 fl_X1_47 (by decide) rfl rfl rfl (ty := .object "TattooRoads$Laws") rfl rfl rfl T_95 ⟨by decide, rfl⟩ (cel_putR T_95 rfl rfl) ?_
  exact c_ret (t := 96) (cs := 8) (ss := 73) (st := []) eX1_init_104 rfl rfl rfl rfl
theorem k_X1_50 {l : Launch} {g : GT} {N0 : Nat} (ad : Nat → Nat) : TrC l g N0 1 8 73 mX1_init [.ref (ad 50), .ref (ad 1)] 98 121 ad := by
  refine TrC.of (by decide +kernel) (Nat.le_of_ble_eq_true rfl) (vs := [some (.ref (ad 50)), some (.ref (ad 1))]) rfl ?_
  refine c_aload_n (t := 98) (cs := 0) (ss := 0) eX1_init_0 rfl ?_
  refine c_obj (t := 98) (cs := 0) (ss := 0) eX1_init_1 om_X1 (by decide) (Nat.le_of_ble_eq_true rfl) ?_
  refine c_aload_n (t := 98) (cs := 0) (ss := 0) eX1_init_4 rfl ?_
  refine c_bipush (t := 98) (cs := 0) (ss := 0) (v := 8) eX1_init_5 (by decide +kernel) ?_
  refine c_newa (t := 98) (cs := 0) (ss := 0) (k := 51) (N := 8) eX1_init_7 rfl (by decide) (by decide) (by decide) (by decide) (by decide) T_98 (fun ad1 hd1 => ?_)
  rw [← hd1 1 (by decide +kernel), ← hd1 50 (by decide +kernel)]
  refine c_putF (t := 99) (cs := 1) (ss := 8) (k := 50) (ci := 0) (i := 2) eX1_init_9 rfl (by decide +kernel) rfl (by decide) iX1 tyX1 tyX1_ok nmX1 fl_X1_9 (by decide) rfl rfl rfl (ty := .array .int) rfl rfl rfl T_99 ⟨by decide, rfl⟩ (cel_putR T_99 rfl rfl) ?_
  refine c_aload_n (t := 100) (cs := 1) (ss := 8) eX1_init_12 rfl ?_
  refine c_bipush (t := 100) (cs := 1) (ss := 8) (v := 8) eX1_init_13 (by decide +kernel) ?_
  refine c_newa (t := 100) (cs := 1) (ss := 8) (k := 52) (N := 8) eX1_init_15 rfl (by decide) (by decide) (by decide) (by decide) (by decide) T_100 (fun ad2 hd2 => ?_)
  rw [← hd2 1 (by decide +kernel), ← hd2 50 (by decide +kernel)]
  refine c_putF (t := 101) (cs := 2) (ss := 16) (k := 50) (ci := 0) (i := 3) eX1_init_17 rfl (by decide +kernel) rfl (by decide) iX1 tyX1 tyX1_ok nmX1 fl_X1_15 (by decide) rfl rfl rfl (ty := .array .int) rfl rfl rfl T_101 ⟨by decide, rfl⟩ (cel_putR T_101 rfl rfl) ?_
  refine c_aload_n (t := 102) (cs := 2) (ss := 16) eX1_init_20 rfl ?_
  refine c_bipush (t := 102) (cs := 2) (ss := 16) (v := 8) eX1_init_21 (by decide +kernel) ?_
  refine c_newa (t := 102) (cs := 2) (ss := 16) (k := 53) (N := 8) eX1_init_23 rfl (by decide) (by decide) (by decide) (by decide) (by decide) T_102 (fun ad3 hd3 => ?_)
  rw [← hd3 1 (by decide +kernel), ← hd3 50 (by decide +kernel)]
  refine c_putF (t := 103) (cs := 3) (ss := 24) (k := 50) (ci := 0) (i := 4) eX1_init_25 rfl (by decide +kernel) rfl (by decide) iX1 tyX1 tyX1_ok nmX1 fl_X1_18 (by decide) rfl rfl rfl (ty := .array .int) rfl rfl rfl T_103 ⟨by decide, rfl⟩ (cel_putR T_103 rfl rfl) ?_
  refine c_aload_n (t := 104) (cs := 3) (ss := 24) eX1_init_28 rfl ?_
  refine c_bipush (t := 104) (cs := 3) (ss := 24) (v := 8) eX1_init_29 (by decide +kernel) ?_
  refine c_newa (t := 104) (cs := 3) (ss := 24) (k := 54) (N := 8) eX1_init_31 rfl (by decide) (by decide) (by decide) (by decide) (by decide) T_104 (fun ad4 hd4 => ?_)
  rw [← hd4 1 (by decide +kernel), ← hd4 50 (by decide +kernel)]
  refine c_putF (t := 105) (cs := 4) (ss := 32) (k := 50) (ci := 0) (i := 5) eX1_init_33 rfl (by decide +kernel) rfl (by decide) iX1 tyX1 tyX1_ok nmX1 fl_X1_21 (by decide) rfl rfl rfl (ty := .array .int) rfl rfl rfl T_105 ⟨by decide, rfl⟩ (cel_putR T_105 rfl rfl) ?_
  refine c_aload_n (t := 106) (cs := 4) (ss := 32) eX1_init_36 rfl ?_
  refine c_bipush (t := 106) (cs := 4) (ss := 32) (v := 14) eX1_init_37 (by decide +kernel) ?_
  refine c_newa (t := 106) (cs := 4) (ss := 32) (k := 55) (N := 14) eX1_init_39 rfl (by decide) (by decide) (by decide) (by decide) (by decide) T_106 (fun ad5 hd5 => ?_)
  rw [← hd5 1 (by decide +kernel), ← hd5 50 (by decide +kernel)]
  refine c_putF (t := 107) (cs := 5) (ss := 46) (k := 50) (ci := 0) (i := 7) eX1_init_41 rfl (by decide +kernel) rfl (by decide) iX1 tyX1 tyX1_ok nmX1 fl_X1_24 (by decide) rfl rfl rfl (ty := .array .int) rfl rfl rfl T_107 ⟨by decide, rfl⟩ (cel_putR T_107 rfl rfl) ?_
  refine c_aload_n (t := 108) (cs := 5) (ss := 46) eX1_init_44 rfl ?_
  refine c_bipush (t := 108) (cs := 5) (ss := 46) (v := 14) eX1_init_45 (by decide +kernel) ?_
  refine c_newa (t := 108) (cs := 5) (ss := 46) (k := 56) (N := 14) eX1_init_47 rfl (by decide) (by decide) (by decide) (by decide) (by decide) T_108 (fun ad6 hd6 => ?_)
  rw [← hd6 1 (by decide +kernel), ← hd6 50 (by decide +kernel)]
  refine c_putF (t := 109) (cs := 6) (ss := 60) (k := 50) (ci := 0) (i := 8) eX1_init_49 rfl (by decide +kernel) rfl (by decide) iX1 tyX1 tyX1_ok nmX1 fl_X1_27 (by decide) rfl rfl rfl (ty := .array .int) rfl rfl rfl T_109 ⟨by decide, rfl⟩ (cel_putR T_109 rfl rfl) ?_
  refine c_aload_n (t := 110) (cs := 6) (ss := 60) eX1_init_52 rfl ?_
  refine c_bipush (t := 110) (cs := 6) (ss := 60) (v := 10) eX1_init_53 (by decide +kernel) ?_
  refine c_newa (t := 110) (cs := 6) (ss := 60) (k := 57) (N := 10) eX1_init_55 rfl (by decide) (by decide) (by decide) (by decide) (by decide) T_110 (fun ad7 hd7 => ?_)
  rw [← hd7 1 (by decide +kernel), ← hd7 50 (by decide +kernel)]
  refine c_putF (t := 111) (cs := 7) (ss := 70) (k := 50) (ci := 0) (i := 9) eX1_init_57 rfl (by decide +kernel) rfl (by decide) iX1 tyX1 tyX1_ok nmX1 fl_X1_30 (by decide) rfl rfl rfl (ty := .array .int) rfl rfl rfl T_111 ⟨by decide, rfl⟩ (cel_putR T_111 rfl rfl) ?_
  refine c_aload_n (t := 112) (cs := 7) (ss := 70) eX1_init_60 rfl ?_
  refine c_bipush (t := 112) (cs := 7) (ss := 70) (v := 60) eX1_init_61 (by decide +kernel) ?_
  refine c_put (t := 112) (cs := 7) (ss := 70) (k := 50) (ci := 0) (i := 11) eX1_init_63 rfl (by decide +kernel) rfl (by decide) iX1 tyX1 tyX1_ok nmX1 fl_X1_33 (by decide) rfl (ty := .int) rfl rfl rfl T_112 ⟨by decide, rfl⟩ (cel_putI T_112 rfl rfl) ?_
  refine c_aload_n (t := 113) (cs := 7) (ss := 70) eX1_init_66 rfl ?_
  refine c_bipush (t := 113) (cs := 7) (ss := 70) (v := 10) eX1_init_67 (by decide +kernel) ?_
  refine c_put (t := 113) (cs := 7) (ss := 70) (k := 50) (ci := 0) (i := 12) eX1_init_69 rfl (by decide +kernel) rfl (by decide) iX1 tyX1 tyX1_ok nmX1 fl_X1_37 (by decide) rfl (ty := .int) rfl rfl rfl T_113 ⟨by decide, rfl⟩ (cel_putI T_113 rfl rfl) ?_
  refine c_aload_n (t := 114) (cs := 7) (ss := 70) eX1_init_72 rfl ?_
  refine c_iconst (t := 114) (cs := 7) (ss := 70) (v := 1) eX1_init_73 (by decide +kernel) ?_
  refine c_put (t := 114) (cs := 7) (ss := 70) (k := 50) (ci := 0) (i := 17) eX1_init_74 rfl (by decide +kernel) rfl (by decide) iX1 tyX1 tyX1_ok nmX1 fl_X1_40 (by decide) rfl (ty := .int) rfl rfl rfl T_114 ⟨by decide, rfl⟩ (cel_putI T_114 rfl rfl) ?_
  refine c_aload_n (t := 115) (cs := 7) (ss := 70) eX1_init_77 rfl ?_
  refine c_iconst (t := 115) (cs := 7) (ss := 70) (v := 3) eX1_init_78 (by decide +kernel) ?_
  refine c_newa (t := 115) (cs := 7) (ss := 70) (k := 58) (N := 3) eX1_init_79 rfl (by decide) (by decide) (by decide) (by decide) (by decide) T_115 (fun ad8 hd8 => ?_)
  rw [← hd8 1 (by decide +kernel), ← hd8 50 (by decide +kernel)]
  refine c_dup (t := 116) (cs := 8) (ss := 73) eX1_init_81 rfl ?_
  refine c_iconst (t := 116) (cs := 8) (ss := 73) (v := 0) eX1_init_82 (by decide +kernel) ?_
  refine c_ldc (t := 116) (cs := 8) (ss := 73) eX1_init_83 kc_X1_43 ?_
  refine c_iast (t := 116) (cs := 8) (ss := 73) (k := 58) eX1_init_85 rfl (by decide +kernel) (by unfold vp_in; decide) T_116 ?_
  refine c_dup (t := 117) (cs := 8) (ss := 73) eX1_init_86 rfl ?_
  refine c_iconst (t := 117) (cs := 8) (ss := 73) (v := 1) eX1_init_87 (by decide +kernel) ?_
  refine c_ldc (t := 117) (cs := 8) (ss := 73) eX1_init_88 kc_X1_43 ?_
  refine c_iast (t := 117) (cs := 8) (ss := 73) (k := 58) eX1_init_90 rfl (by decide +kernel) (by unfold vp_in; decide) T_117 ?_
  refine c_dup (t := 118) (cs := 8) (ss := 73) eX1_init_91 rfl ?_
  refine c_iconst (t := 118) (cs := 8) (ss := 73) (v := 2) eX1_init_92 (by decide +kernel) ?_
  refine c_ldc (t := 118) (cs := 8) (ss := 73) eX1_init_93 kc_X1_43 ?_
  refine c_iast (t := 118) (cs := 8) (ss := 73) (k := 58) eX1_init_95 rfl (by decide +kernel) (by unfold vp_in; decide) T_118 ?_
  refine c_putF (t := 119) (cs := 8) (ss := 73) (k := 50) (ci := 0) (i := 19) eX1_init_96 rfl (by decide +kernel) rfl (by decide) iX1 tyX1 tyX1_ok nmX1 fl_X1_44 (by decide) rfl rfl rfl (ty := .array .int) rfl rfl rfl T_119 ⟨by decide, rfl⟩ (cel_putR T_119 rfl rfl) ?_
  refine c_aload_n (t := 120) (cs := 8) (ss := 73) eX1_init_99 rfl ?_
  refine c_aload_n (t := 120) (cs := 8) (ss := 73) eX1_init_100 rfl ?_
  refine c_putF (t := 120) (cs := 8) (ss := 73) (k := 50) (ci := 0) (i := 0) eX1_init_101 rfl (by decide +kernel) rfl (by decide) iX1 tyX1 tyX1_ok nmX1 fl_X1_47 (by decide) rfl rfl rfl (ty := .object "TattooRoads$Laws") rfl rfl rfl T_120 ⟨by decide, rfl⟩ (cel_putR T_120 rfl rfl) ?_
  exact c_ret (t := 121) (cs := 8) (ss := 73) (st := []) eX1_init_104 rfl rfl rfl rfl
