set_option maxHeartbeats 4000000 in
theorem k_X7_0 {l : Launch} {g : GT} {N0 : Nat} (ad : Nat → Nat) : TrC l g N0 3 79 2407 mX7_init [.ref (ad 0)] 1 194 ad := by
  refine TrC.of (by decide +kernel) (Nat.le_of_ble_eq_true rfl) (vs := [some (.ref (ad 0)), none]) rfl ?_
  refine c_aload_n (t := 1) (cs := 0) (ss := 0) eX7_init_0 rfl ?_
  refine c_obj (t := 1) (cs := 0) (ss := 0) eX7_init_1 om_X7 (by decide) (Nat.le_of_ble_eq_true rfl) ?_
  refine c_aload_n (t := 1) (cs := 0) (ss := 0) eX7_init_4 rfl ?_
  refine c_new (t := 1) (cs := 0) (ss := 0) (k := 1) (ci := 1) eX7_init_5 rfl rfl iX2 tyX2 tyX2_ok kl_X7_7 is_X2 in_X2 df_X2 (by decide) (by decide) T_1 (fun ad1 hd1 => ?_)
  rw [← hd1 0 (by decide +kernel)]
  refine c_dup (t := 2) (cs := 1) (ss := 5) eX7_init_8 rfl ?_
  refine c_callN (t := 2) (cs := 1) (ss := 5) (y' := mX2_init) (d' := 1) (mc' := 19) (ms' := 1496) (t1 := 40) (b := ad1 1) [] eX7_init_9 (fun _ h => h.1 _ (List.mem_of_getElem? (i := 0) rfl)) im_X2_init in_X2 cw_X2_init rfl rfl (by decide +kernel) (np := 0) rfl (by decide) (by decide) (by decide) (Nat.le_of_ble_eq_true rfl) rfl (k_X2_1 ad1) (by decide) (fun ad2 hd2 => ?_)
  rw [← hd2 0 (by decide +kernel), ← hd2 1 (by decide +kernel)]
  refine c_putF (t := 40) (cs := 20) (ss := 1501) (k := 0) (ci := 6) (i := 0) eX7_init_12 rfl (by decide +kernel) rfl (by decide) iX7 tyX7 tyX7_ok nmX7 fl_X7_10 (by decide) rfl rfl rfl (ty := .object "TattooRoads$Laws") rfl rfl rfl T_40 ⟨by decide, rfl⟩ (cel_putR T_40 rfl rfl) ?_
  refine c_aload_n (t := 41) (cs := 20) (ss := 1501) eX7_init_15 rfl ?_
  refine c_new (t := 41) (cs := 20) (ss := 1501) (k := 21) (ci := 4) eX7_init_16 rfl rfl iX5 tyX5 tyX5_ok kl_X7_16 is_X5 in_X5 df_X5 (by decide) (by decide) T_41 (fun ad3 hd3 => ?_)
  rw [← hd3 0 (by decide +kernel)]
  refine c_dup (t := 42) (cs := 21) (ss := 1510) eX7_init_19 rfl ?_
  refine c_callN (t := 42) (cs := 21) (ss := 1510) (y' := mX5_init) (d' := 1) (mc' := 2) (ms' := 192) (t1 := 46) (b := ad3 21) [] eX7_init_20 (fun _ h => h.1 _ (List.mem_of_getElem? (i := 1) rfl)) im_X5_init in_X5 cw_X5_init rfl rfl (by decide +kernel) (np := 0) rfl (by decide) (by decide) (by decide) (Nat.le_of_ble_eq_true rfl) rfl (k_X5_21 ad3) (by decide) (fun ad4 hd4 => ?_)
  rw [← hd4 0 (by decide +kernel), ← hd4 21 (by decide +kernel)]
  refine c_putF (t := 46) (cs := 23) (ss := 1702) (k := 0) (ci := 6) (i := 1) eX7_init_23 rfl (by decide +kernel) rfl (by decide) iX7 tyX7 tyX7_ok nmX7 fl_X7_19 (by decide) rfl rfl rfl (ty := .object "TattooRoads$Tape") rfl rfl rfl T_46 ⟨by decide, rfl⟩ (cel_putR T_46 rfl rfl) ?_
  refine c_aload_n (t := 47) (cs := 23) (ss := 1702) eX7_init_26 rfl ?_
  refine c_new (t := 47) (cs := 23) (ss := 1702) (k := 30) (ci := 0) eX7_init_27 rfl rfl iX1 tyX1 tyX1_ok kl_X7_23 is_X1 in_X1 (df_X1 _) (by decide) (by decide) T_47 (fun ad5 hd5 => ?_)
  rw [← hd5 0 (by decide +kernel)]
  refine c_dup (t := 48) (cs := 24) (ss := 1722) eX7_init_30 rfl ?_
  refine c_aload_n (t := 48) (cs := 24) (ss := 1722) eX7_init_31 rfl ?_
  refine c_get (t := 48) (cs := 24) (ss := 1722) (k := 0) (ci := 6) (i := 0) (j := 1) eX7_init_32 rfl (by decide +kernel) rfl (by decide) iX7 fl_X7_10 rfl (by decide +kernel) ?_
  refine c_callI (t := 48) (cs := 24) (ss := 1722) (y' := mX1_init) (d' := 1) (mc' := 8) (ms' := 73) (t1 := 71) (b := ad5 30) [.ref (ad5 1)] eX7_init_35 ml_X7_25 im_X1_init in_X1 cw_X1_init rfl rfl (by decide +kernel) (np := 1) rfl (by decide) (by decide) (by decide) (Nat.le_of_ble_eq_true rfl) rfl (k_X1_30 ad5) (by decide) (fun ad6 hd6 => ?_)
  rw [← hd6 0 (by decide +kernel), ← hd6 30 (by decide +kernel)]
  refine c_putF (t := 71) (cs := 32) (ss := 1795) (k := 0) (ci := 6) (i := 2) eX7_init_38 rfl (by decide +kernel) rfl (by decide) iX7 tyX7 tyX7_ok nmX7 fl_X7_28 (by decide) rfl rfl rfl (ty := .object "TattooRoads$Land") rfl rfl rfl T_71 ⟨by decide, rfl⟩ (cel_putR T_71 rfl rfl) ?_
  refine c_aload_n (t := 72) (cs := 32) (ss := 1795) eX7_init_41 rfl ?_
  refine c_new (t := 72) (cs := 32) (ss := 1795) (k := 40) (ci := 0) eX7_init_42 rfl rfl iX1 tyX1 tyX1_ok kl_X7_23 is_X1 in_X1 (df_X1 _) (by decide) (by decide) T_72 (fun ad7 hd7 => ?_)
  rw [← hd7 0 (by decide +kernel)]
  refine c_dup (t := 73) (cs := 33) (ss := 1815) eX7_init_45 rfl ?_
  refine c_aload_n (t := 73) (cs := 33) (ss := 1815) eX7_init_46 rfl ?_
  refine c_get (t := 73) (cs := 33) (ss := 1815) (k := 0) (ci := 6) (i := 0) (j := 1) eX7_init_47 rfl (by decide +kernel) rfl (by decide) iX7 fl_X7_10 rfl (by decide +kernel) ?_
  refine c_callI (t := 73) (cs := 33) (ss := 1815) (y' := mX1_init) (d' := 1) (mc' := 8) (ms' := 73) (t1 := 96) (b := ad7 40) [.ref (ad7 1)] eX7_init_50 ml_X7_25 im_X1_init in_X1 cw_X1_init rfl rfl (by decide +kernel) (np := 1) rfl (by decide) (by decide) (by decide) (Nat.le_of_ble_eq_true rfl) rfl (k_X1_40 ad7) (by decide) (fun ad8 hd8 => ?_)
  rw [← hd8 0 (by decide +kernel), ← hd8 40 (by decide +kernel)]
  refine c_putF (t := 96) (cs := 41) (ss := 1888) (k := 0) (ci := 6) (i := 3) eX7_init_53 rfl (by decide +kernel) rfl (by decide) iX7 tyX7 tyX7_ok nmX7 fl_X7_32 (by decide) rfl rfl rfl (ty := .object "TattooRoads$Land") rfl rfl rfl T_96 ⟨by decide, rfl⟩ (cel_putR T_96 rfl rfl) ?_
  refine c_aload_n (t := 97) (cs := 41) (ss := 1888) eX7_init_56 rfl ?_
  refine c_new (t := 97) (cs := 41) (ss := 1888) (k := 50) (ci := 0) eX7_init_57 rfl rfl iX1 tyX1 tyX1_ok kl_X7_23 is_X1 in_X1 (df_X1 _) (by decide) (by decide) T_97 (fun ad9 hd9 => ?_)
  rw [← hd9 0 (by decide +kernel)]
  refine c_dup (t := 98) (cs := 42) (ss := 1908) eX7_init_60 rfl ?_
  refine c_aload_n (t := 98) (cs := 42) (ss := 1908) eX7_init_61 rfl ?_
  refine c_get (t := 98) (cs := 42) (ss := 1908) (k := 0) (ci := 6) (i := 0) (j := 1) eX7_init_62 rfl (by decide +kernel) rfl (by decide) iX7 fl_X7_10 rfl (by decide +kernel) ?_
  refine c_callI (t := 98) (cs := 42) (ss := 1908) (y' := mX1_init) (d' := 1) (mc' := 8) (ms' := 73) (t1 := 121) (b := ad9 50) [.ref (ad9 1)] eX7_init_65 ml_X7_25 im_X1_init in_X1 cw_X1_init rfl rfl (by decide +kernel) (np := 1) rfl (by decide) (by decide) (by decide) (Nat.le_of_ble_eq_true rfl) rfl (k_X1_50 ad9) (by decide) (fun ad10 hd10 => ?_)
  rw [← hd10 0 (by decide +kernel), ← hd10 50 (by decide +kernel)]
  refine c_putF (t := 121) (cs := 50) (ss := 1981) (k := 0) (ci := 6) (i := 4) eX7_init_68 rfl (by decide +kernel) rfl (by decide) iX7 tyX7 tyX7_ok nmX7 fl_X7_35 (by decide) rfl rfl rfl (ty := .object "TattooRoads$Land") rfl rfl rfl T_121 ⟨by decide, rfl⟩ (cel_putR T_121 rfl rfl) ?_
  refine c_aload_n (t := 122) (cs := 50) (ss := 1981) eX7_init_71 rfl ?_
  refine c_new (t := 122) (cs := 50) (ss := 1981) (k := 60) (ci := 5) eX7_init_72 rfl rfl iX6 tyX6 tyX6_ok kl_X7_38 is_X6 in_X6 df_X6 (by decide) (by decide) T_122 (fun ad11 hd11 => ?_)
  rw [← hd11 0 (by decide +kernel)]
  refine c_dup (t := 123) (cs := 51) (ss := 1982) eX7_init_75 rfl ?_
  refine c_callN (t := 123) (cs := 51) (ss := 1982) (y' := mX6_init) (d' := 1) (mc' := 1) (ms' := 80) (t1 := 125) (b := ad11 60) [] eX7_init_76 (fun _ h => h.1 _ (List.mem_of_getElem? (i := 2) rfl)) im_X6_init in_X6 cw_X6_init rfl rfl (by decide +kernel) (np := 0) rfl (by decide) (by decide) (by decide) (Nat.le_of_ble_eq_true rfl) rfl (k_X6_60 ad11) (by decide) (fun ad12 hd12 => ?_)
  rw [← hd12 0 (by decide +kernel), ← hd12 60 (by decide +kernel)]
  refine c_putF (t := 125) (cs := 52) (ss := 2062) (k := 0) (ci := 6) (i := 6) eX7_init_79 rfl (by decide +kernel) rfl (by decide) iX7 tyX7 tyX7_ok nmX7 fl_X7_41 (by decide) rfl rfl rfl (ty := .object "TattooRoads$Walks") rfl rfl rfl T_125 ⟨by decide, rfl⟩ (cel_putR T_125 rfl rfl) ?_
  refine c_aload_n (t := 126) (cs := 52) (ss := 2062) eX7_init_82 rfl ?_
  refine c_bipush (t := 126) (cs := 52) (ss := 2062) (v := 8) eX7_init_83 (by decide +kernel) ?_
  refine c_newa (t := 126) (cs := 52) (ss := 2062) (k := 62) (N := 8) eX7_init_85 rfl (by decide) (by decide) (by decide) (by decide) (by decide) T_126 (fun ad13 hd13 => ?_)
  rw [← hd13 0 (by decide +kernel)]
  refine c_putF (t := 127) (cs := 53) (ss := 2070) (k := 0) (ci := 6) (i := 7) eX7_init_87 rfl (by decide +kernel) rfl (by decide) iX7 tyX7 tyX7_ok nmX7 fl_X7_45 (by decide) rfl rfl rfl (ty := .array .int) rfl rfl rfl T_127 ⟨by decide, rfl⟩ (cel_putR T_127 rfl rfl) ?_
  refine c_aload_n (t := 128) (cs := 53) (ss := 2070) eX7_init_90 rfl ?_
  refine c_bipush (t := 128) (cs := 53) (ss := 2070) (v := 60) eX7_init_91 (by decide +kernel) ?_
  refine c_newa (t := 128) (cs := 53) (ss := 2070) (k := 63) (N := 60) eX7_init_93 rfl (by decide) (by decide) (by decide) (by decide) (by decide) T_128 (fun ad14 hd14 => ?_)
  rw [← hd14 0 (by decide +kernel)]
  refine c_putF (t := 129) (cs := 54) (ss := 2130) (k := 0) (ci := 6) (i := 10) eX7_init_95 rfl (by decide +kernel) rfl (by decide) iX7 tyX7 tyX7_ok nmX7 fl_X7_49 (by decide) rfl rfl rfl (ty := .array .int) rfl rfl rfl T_129 ⟨by decide, rfl⟩ (cel_putR T_129 rfl rfl) ?_
  refine c_aload_n (t := 130) (cs := 54) (ss := 2130) eX7_init_98 rfl ?_
  refine c_iconst (t := 130) (cs := 54) (ss := 2130) (v := 4) eX7_init_99 (by decide +kernel) ?_
  refine c_newq (t := 130) (cs := 54) (ss := 2130) (k := 64) (q0 := 2) (N := 4) eX7_init_100 rfl rfl kl_X7_52 (fun _ h => h.2.1) (by decide) (by decide) (by decide) (by decide) (by decide) T_130 (fun ad15 hd15 => ?_)
  rw [← hd15 0 (by decide +kernel)]
  refine c_putF (t := 131) (cs := 55) (ss := 2134) (k := 0) (ci := 6) (i := 8) eX7_init_103 rfl (by decide +kernel) rfl (by decide) iX7 tyX7 tyX7_ok nmX7 fl_X7_54 (by decide) rfl rfl rfl (ty := .array (.object "TattooRoads$Sheet")) rfl rfl rfl T_131 ⟨by decide, rfl⟩ (cel_putR T_131 rfl rfl) ?_
  refine c_iconst (t := 132) (cs := 55) (ss := 2134) (v := 0) eX7_init_106 (by decide +kernel) ?_
  refine c_istore_n (t := 132) (cs := 55) (ss := 2134) (vs' := [some (.ref (ad15 0)), some (.int 0)]) eX7_init_107 rfl (Nat.le_of_ble_eq_true rfl) rfl ?_
  refine c_iload_n (t := 132) (cs := 55) (ss := 2134) eX7_init_108 rfl ?_
  refine c_iconst (t := 132) (cs := 55) (ss := 2134) (v := 4) eX7_init_109 (by decide +kernel) ?_
  refine c_icmp_ge (t := 132) (cs := 55) (ss := 2134) (tgt := 132) eX7_init_110 (by decide) (fun h => absurd h (by decide)) (fun _ => ?_)
  refine c_aload_n (t := 132) (cs := 55) (ss := 2134) eX7_init_113 rfl ?_
  refine c_get (t := 132) (cs := 55) (ss := 2134) (k := 0) (ci := 6) (i := 8) (j := 64) eX7_init_114 rfl (by decide +kernel) rfl (by decide) iX7 fl_X7_54 rfl (by decide +kernel) ?_
  refine c_iload_n (t := 132) (cs := 55) (ss := 2134) eX7_init_117 rfl ?_
  refine c_new (t := 132) (cs := 55) (ss := 2134) (k := 70) (ci := 2) eX7_init_118 rfl rfl iX3 tyX3 tyX3_ok kl_X7_52 is_X3 in_X3 (df_X3 _) (by decide) (by decide) T_132 (fun ad16 hd16 => ?_)
  rw [← hd16 0 (by decide +kernel), ← hd16 64 (by decide +kernel)]
  refine c_dup (t := 133) (cs := 56) (ss := 2137) eX7_init_121 rfl ?_
  refine c_callN (t := 133) (cs := 56) (ss := 2137) (y' := mX3_init) (d' := 1) (mc' := 1) (ms' := 24) (t1 := 136) (b := ad16 70) [] eX7_init_122 (fun _ h => h.1 _ (List.mem_of_getElem? (i := 3) rfl)) im_X3_init in_X3 cw_X3_init rfl rfl (by decide +kernel) (np := 0) rfl (by decide) (by decide) (by decide) (Nat.le_of_ble_eq_true rfl) rfl (k_X3_70 ad16) (by decide) (fun ad17 hd17 => ?_)
  rw [← hd17 0 (by decide +kernel), ← hd17 64 (by decide +kernel), ← hd17 70 (by decide +kernel)]
  refine c_aast (t := 136) (cs := 57) (ss := 2161) (k := 64) (q0 := 2) (j := 70) (cj := 2) eX7_init_125 rfl (by decide +kernel) rfl (by decide +kernel) rfl rfl (by unfold vp_in; decide) rfl T_136 ?_
  refine c_iinc (t := 137) (cs := 57) (ss := 2161) (x := 0) (v := 1) (vs' := [some (.ref (ad17 0)), some (.int 1)]) eX7_init_126 rfl rfl rfl rfl ?_
  refine c_goto (t := 137) (cs := 57) (ss := 2161) (tgt := 108) eX7_init_129 (by decide) ?_
  refine c_iload_n (t := 137) (cs := 57) (ss := 2161) eX7_init_108 rfl ?_
  refine c_iconst (t := 137) (cs := 57) (ss := 2161) (v := 4) eX7_init_109 (by decide +kernel) ?_
  refine c_icmp_ge (t := 137) (cs := 57) (ss := 2161) (tgt := 132) eX7_init_110 (by decide) (fun h => absurd h (by decide)) (fun _ => ?_)
  refine c_aload_n (t := 137) (cs := 57) (ss := 2161) eX7_init_113 rfl ?_
  refine c_get (t := 137) (cs := 57) (ss := 2161) (k := 0) (ci := 6) (i := 8) (j := 64) eX7_init_114 rfl (by decide +kernel) rfl (by decide) iX7 fl_X7_54 rfl (by decide +kernel) ?_
  refine c_iload_n (t := 137) (cs := 57) (ss := 2161) eX7_init_117 rfl ?_
  refine c_new (t := 137) (cs := 57) (ss := 2161) (k := 72) (ci := 2) eX7_init_118 rfl rfl iX3 tyX3 tyX3_ok kl_X7_52 is_X3 in_X3 (df_X3 _) (by decide) (by decide) T_137 (fun ad18 hd18 => ?_)
  rw [← hd18 0 (by decide +kernel), ← hd18 64 (by decide +kernel)]
  refine c_dup (t := 138) (cs := 58) (ss := 2164) eX7_init_121 rfl ?_
  refine c_callN (t := 138) (cs := 58) (ss := 2164) (y' := mX3_init) (d' := 1) (mc' := 1) (ms' := 24) (t1 := 141) (b := ad18 72) [] eX7_init_122 (fun _ h => h.1 _ (List.mem_of_getElem? (i := 3) rfl)) im_X3_init in_X3 cw_X3_init rfl rfl (by decide +kernel) (np := 0) rfl (by decide) (by decide) (by decide) (Nat.le_of_ble_eq_true rfl) rfl (k_X3_72 ad18) (by decide) (fun ad19 hd19 => ?_)
  rw [← hd19 0 (by decide +kernel), ← hd19 64 (by decide +kernel), ← hd19 72 (by decide +kernel)]
  refine c_aast (t := 141) (cs := 59) (ss := 2188) (k := 64) (q0 := 2) (j := 72) (cj := 2) eX7_init_125 rfl (by decide +kernel) rfl (by decide +kernel) rfl rfl (by unfold vp_in; decide) rfl T_141 ?_
  refine c_iinc (t := 142) (cs := 59) (ss := 2188) (x := 1) (v := 1) (vs' := [some (.ref (ad19 0)), some (.int 2)]) eX7_init_126 rfl rfl rfl rfl ?_
  refine c_goto (t := 142) (cs := 59) (ss := 2188) (tgt := 108) eX7_init_129 (by decide) ?_
  refine c_iload_n (t := 142) (cs := 59) (ss := 2188) eX7_init_108 rfl ?_
  refine c_iconst (t := 142) (cs := 59) (ss := 2188) (v := 4) eX7_init_109 (by decide +kernel) ?_
  refine c_icmp_ge (t := 142) (cs := 59) (ss := 2188) (tgt := 132) eX7_init_110 (by decide) (fun h => absurd h (by decide)) (fun _ => ?_)
  refine c_aload_n (t := 142) (cs := 59) (ss := 2188) eX7_init_113 rfl ?_
  refine c_get (t := 142) (cs := 59) (ss := 2188) (k := 0) (ci := 6) (i := 8) (j := 64) eX7_init_114 rfl (by decide +kernel) rfl (by decide) iX7 fl_X7_54 rfl (by decide +kernel) ?_
  refine c_iload_n (t := 142) (cs := 59) (ss := 2188) eX7_init_117 rfl ?_
  refine c_new (t := 142) (cs := 59) (ss := 2188) (k := 74) (ci := 2) eX7_init_118 rfl rfl iX3 tyX3 tyX3_ok kl_X7_52 is_X3 in_X3 (df_X3 _) (by decide) (by decide) T_142 (fun ad20 hd20 => ?_)
  rw [← hd20 0 (by decide +kernel), ← hd20 64 (by decide +kernel)]
  refine c_dup (t := 143) (cs := 60) (ss := 2191) eX7_init_121 rfl ?_
  refine c_callN (t := 143) (cs := 60) (ss := 2191) (y' := mX3_init) (d' := 1) (mc' := 1) (ms' := 24) (t1 := 146) (b := ad20 74) [] eX7_init_122 (fun _ h => h.1 _ (List.mem_of_getElem? (i := 3) rfl)) im_X3_init in_X3 cw_X3_init rfl rfl (by decide +kernel) (np := 0) rfl (by decide) (by decide) (by decide) (Nat.le_of_ble_eq_true rfl) rfl (k_X3_74 ad20) (by decide) (fun ad21 hd21 => ?_)
  rw [← hd21 0 (by decide +kernel), ← hd21 64 (by decide +kernel), ← hd21 74 (by decide +kernel)]
  refine c_aast (t := 146) (cs := 61) (ss := 2215) (k := 64) (q0 := 2) (j := 74) (cj := 2) eX7_init_125 rfl (by decide +kernel) rfl (by decide +kernel) rfl rfl (by unfold vp_in; decide) rfl T_146 ?_
  refine c_iinc (t := 147) (cs := 61) (ss := 2215) (x := 2) (v := 1) (vs' := [some (.ref (ad21 0)), some (.int 3)]) eX7_init_126 rfl rfl rfl rfl ?_
  refine c_goto (t := 147) (cs := 61) (ss := 2215) (tgt := 108) eX7_init_129 (by decide) ?_
  refine c_iload_n (t := 147) (cs := 61) (ss := 2215) eX7_init_108 rfl ?_
  refine c_iconst (t := 147) (cs := 61) (ss := 2215) (v := 4) eX7_init_109 (by decide +kernel) ?_
  refine c_icmp_ge (t := 147) (cs := 61) (ss := 2215) (tgt := 132) eX7_init_110 (by decide) (fun h => absurd h (by decide)) (fun _ => ?_)
  refine c_aload_n (t := 147) (cs := 61) (ss := 2215) eX7_init_113 rfl ?_
  refine c_get (t := 147) (cs := 61) (ss := 2215) (k := 0) (ci := 6) (i := 8) (j := 64) eX7_init_114 rfl (by decide +kernel) rfl (by decide) iX7 fl_X7_54 rfl (by decide +kernel) ?_
  refine c_iload_n (t := 147) (cs := 61) (ss := 2215) eX7_init_117 rfl ?_
  refine c_new (t := 147) (cs := 61) (ss := 2215) (k := 76) (ci := 2) eX7_init_118 rfl rfl iX3 tyX3 tyX3_ok kl_X7_52 is_X3 in_X3 (df_X3 _) (by decide) (by decide) T_147 (fun ad22 hd22 => ?_)
  rw [← hd22 0 (by decide +kernel), ← hd22 64 (by decide +kernel)]
  refine c_dup (t := 148) (cs := 62) (ss := 2218) eX7_init_121 rfl ?_
  refine c_callN (t := 148) (cs := 62) (ss := 2218) (y' := mX3_init) (d' := 1) (mc' := 1) (ms' := 24) (t1 := 151) (b := ad22 76) [] eX7_init_122 (fun _ h => h.1 _ (List.mem_of_getElem? (i := 3) rfl)) im_X3_init in_X3 cw_X3_init rfl rfl (by decide +kernel) (np := 0) rfl (by decide) (by decide) (by decide) (Nat.le_of_ble_eq_true rfl) rfl (k_X3_76 ad22) (by decide) (fun ad23 hd23 => ?_)
  rw [← hd23 0 (by decide +kernel), ← hd23 64 (by decide +kernel), ← hd23 76 (by decide +kernel)]
  refine c_aast (t := 151) (cs := 63) (ss := 2242) (k := 64) (q0 := 2) (j := 76) (cj := 2) eX7_init_125 rfl (by decide +kernel) rfl (by decide +kernel) rfl rfl (by unfold vp_in; decide) rfl T_151 ?_
  refine c_iinc (t := 152) (cs := 63) (ss := 2242) (x := 3) (v := 1) (vs' := [some (.ref (ad23 0)), some (.int 4)]) eX7_init_126 rfl rfl rfl rfl ?_
  refine c_goto (t := 152) (cs := 63) (ss := 2242) (tgt := 108) eX7_init_129 (by decide) ?_
  refine c_iload_n (t := 152) (cs := 63) (ss := 2242) eX7_init_108 rfl ?_
  refine c_iconst (t := 152) (cs := 63) (ss := 2242) (v := 4) eX7_init_109 (by decide +kernel) ?_
  refine c_icmp_ge (t := 152) (cs := 63) (ss := 2242) (tgt := 132) eX7_init_110 (by decide) (fun _ => ?_) (fun h => absurd (by decide) h)
  refine c_aload_n (t := 152) (cs := 63) (ss := 2242) eX7_init_132 rfl ?_
  refine c_iconst (t := 152) (cs := 63) (ss := 2242) (v := 5) eX7_init_133 (by decide +kernel) ?_
  refine c_newq (t := 152) (cs := 63) (ss := 2242) (k := 65) (q0 := 3) (N := 5) eX7_init_134 rfl rfl kl_X7_59 (fun _ h => h.2.2.1) (by decide) (by decide) (by decide) (by decide) (by decide) T_152 (fun ad24 hd24 => ?_)
  rw [← hd24 0 (by decide +kernel)]
  refine c_putF (t := 153) (cs := 64) (ss := 2247) (k := 0) (ci := 6) (i := 9) eX7_init_137 rfl (by decide +kernel) rfl (by decide) iX7 tyX7 tyX7_ok nmX7 fl_X7_61 (by decide) rfl rfl rfl (ty := .array (.object "TattooRoads$Slot")) rfl rfl rfl T_153 ⟨by decide, rfl⟩ (cel_putR T_153 rfl rfl) ?_
  refine c_iconst (t := 154) (cs := 64) (ss := 2247) (v := 0) eX7_init_140 (by decide +kernel) ?_
  refine c_istore_n (t := 154) (cs := 64) (ss := 2247) (vs' := [some (.ref (ad24 0)), some (.int 0)]) eX7_init_141 rfl (Nat.le_of_ble_eq_true rfl) rfl ?_
  refine c_iload_n (t := 154) (cs := 64) (ss := 2247) eX7_init_142 rfl ?_
  refine c_iconst (t := 154) (cs := 64) (ss := 2247) (v := 5) eX7_init_143 (by decide +kernel) ?_
  refine c_icmp_ge (t := 154) (cs := 64) (ss := 2247) (tgt := 166) eX7_init_144 (by decide) (fun h => absurd h (by decide)) (fun _ => ?_)
  refine c_aload_n (t := 154) (cs := 64) (ss := 2247) eX7_init_147 rfl ?_
  refine c_get (t := 154) (cs := 64) (ss := 2247) (k := 0) (ci := 6) (i := 9) (j := 65) eX7_init_148 rfl (by decide +kernel) rfl (by decide) iX7 fl_X7_61 rfl (by decide +kernel) ?_
  refine c_iload_n (t := 154) (cs := 64) (ss := 2247) eX7_init_151 rfl ?_
  refine c_new (t := 154) (cs := 64) (ss := 2247) (k := 80) (ci := 3) eX7_init_152 rfl rfl iX4 tyX4 tyX4_ok kl_X7_59 is_X4 in_X4 (df_X4 _) (by decide) (by decide) T_154 (fun ad25 hd25 => ?_)
  rw [← hd25 0 (by decide +kernel), ← hd25 65 (by decide +kernel)]
  refine c_dup (t := 155) (cs := 65) (ss := 2252) eX7_init_155 rfl ?_
  refine c_callN (t := 155) (cs := 65) (ss := 2252) (y' := mX4_init) (d' := 2) (mc' := 2) (ms' := 27) (t1 := 161) (b := ad25 80) [] eX7_init_156 (fun _ h => h.1 _ (List.mem_of_getElem? (i := 4) rfl)) im_X4_init in_X4 cw_X4_init rfl rfl (by decide +kernel) (np := 0) rfl (by decide) (by decide) (by decide) (Nat.le_of_ble_eq_true rfl) rfl (k_X4_80 ad25) (by decide) (fun ad26 hd26 => ?_)
  rw [← hd26 0 (by decide +kernel), ← hd26 65 (by decide +kernel), ← hd26 80 (by decide +kernel)]
  refine c_aast (t := 161) (cs := 67) (ss := 2279) (k := 65) (q0 := 3) (j := 80) (cj := 3) eX7_init_159 rfl (by decide +kernel) rfl (by decide +kernel) rfl rfl (by unfold vp_in; decide) rfl T_161 ?_
  refine c_iinc (t := 162) (cs := 67) (ss := 2279) (x := 0) (v := 1) (vs' := [some (.ref (ad26 0)), some (.int 1)]) eX7_init_160 rfl rfl rfl rfl ?_
  refine c_goto (t := 162) (cs := 67) (ss := 2279) (tgt := 142) eX7_init_163 (by decide) ?_
  refine c_iload_n (t := 162) (cs := 67) (ss := 2279) eX7_init_142 rfl ?_
  refine c_iconst (t := 162) (cs := 67) (ss := 2279) (v := 5) eX7_init_143 (by decide +kernel) ?_
  refine c_icmp_ge (t := 162) (cs := 67) (ss := 2279) (tgt := 166) eX7_init_144 (by decide) (fun h => absurd h (by decide)) (fun _ => ?_)
  refine c_aload_n (t := 162) (cs := 67) (ss := 2279) eX7_init_147 rfl ?_
  refine c_get (t := 162) (cs := 67) (ss := 2279) (k := 0) (ci := 6) (i := 9) (j := 65) eX7_init_148 rfl (by decide +kernel) rfl (by decide) iX7 fl_X7_61 rfl (by decide +kernel) ?_
  refine c_iload_n (t := 162) (cs := 67) (ss := 2279) eX7_init_151 rfl ?_
  refine c_new (t := 162) (cs := 67) (ss := 2279) (k := 83) (ci := 3) eX7_init_152 rfl rfl iX4 tyX4 tyX4_ok kl_X7_59 is_X4 in_X4 (df_X4 _) (by decide) (by decide) T_162 (fun ad27 hd27 => ?_)
  rw [← hd27 0 (by decide +kernel), ← hd27 65 (by decide +kernel)]
  refine c_dup (t := 163) (cs := 68) (ss := 2284) eX7_init_155 rfl ?_
  refine c_callN (t := 163) (cs := 68) (ss := 2284) (y' := mX4_init) (d' := 2) (mc' := 2) (ms' := 27) (t1 := 169) (b := ad27 83) [] eX7_init_156 (fun _ h => h.1 _ (List.mem_of_getElem? (i := 4) rfl)) im_X4_init in_X4 cw_X4_init rfl rfl (by decide +kernel) (np := 0) rfl (by decide) (by decide) (by decide) (Nat.le_of_ble_eq_true rfl) rfl (k_X4_83 ad27) (by decide) (fun ad28 hd28 => ?_)
  rw [← hd28 0 (by decide +kernel), ← hd28 65 (by decide +kernel), ← hd28 83 (by decide +kernel)]
  refine c_aast (t := 169) (cs := 70) (ss := 2311) (k := 65) (q0 := 3) (j := 83) (cj := 3) eX7_init_159 rfl (by decide +kernel) rfl (by decide +kernel) rfl rfl (by unfold vp_in; decide) rfl T_169 ?_
  refine c_iinc (t := 170) (cs := 70) (ss := 2311) (x := 1) (v := 1) (vs' := [some (.ref (ad28 0)), some (.int 2)]) eX7_init_160 rfl rfl rfl rfl ?_
  refine c_goto (t := 170) (cs := 70) (ss := 2311) (tgt := 142) eX7_init_163 (by decide) ?_
  refine c_iload_n (t := 170) (cs := 70) (ss := 2311) eX7_init_142 rfl ?_
  refine c_iconst (t := 170) (cs := 70) (ss := 2311) (v := 5) eX7_init_143 (by decide +kernel) ?_
  refine c_icmp_ge (t := 170) (cs := 70) (ss := 2311) (tgt := 166) eX7_init_144 (by decide) (fun h => absurd h (by decide)) (fun _ => ?_)
  refine c_aload_n (t := 170) (cs := 70) (ss := 2311) eX7_init_147 rfl ?_
  refine c_get (t := 170) (cs := 70) (ss := 2311) (k := 0) (ci := 6) (i := 9) (j := 65) eX7_init_148 rfl (by decide +kernel) rfl (by decide) iX7 fl_X7_61 rfl (by decide +kernel) ?_
  refine c_iload_n (t := 170) (cs := 70) (ss := 2311) eX7_init_151 rfl ?_
  refine c_new (t := 170) (cs := 70) (ss := 2311) (k := 86) (ci := 3) eX7_init_152 rfl rfl iX4 tyX4 tyX4_ok kl_X7_59 is_X4 in_X4 (df_X4 _) (by decide) (by decide) T_170 (fun ad29 hd29 => ?_)
  rw [← hd29 0 (by decide +kernel), ← hd29 65 (by decide +kernel)]
  refine c_dup (t := 171) (cs := 71) (ss := 2316) eX7_init_155 rfl ?_
  refine c_callN (t := 171) (cs := 71) (ss := 2316) (y' := mX4_init) (d' := 2) (mc' := 2) (ms' := 27) (t1 := 177) (b := ad29 86) [] eX7_init_156 (fun _ h => h.1 _ (List.mem_of_getElem? (i := 4) rfl)) im_X4_init in_X4 cw_X4_init rfl rfl (by decide +kernel) (np := 0) rfl (by decide) (by decide) (by decide) (Nat.le_of_ble_eq_true rfl) rfl (k_X4_86 ad29) (by decide) (fun ad30 hd30 => ?_)
  rw [← hd30 0 (by decide +kernel), ← hd30 65 (by decide +kernel), ← hd30 86 (by decide +kernel)]
  refine c_aast (t := 177) (cs := 73) (ss := 2343) (k := 65) (q0 := 3) (j := 86) (cj := 3) eX7_init_159 rfl (by decide +kernel) rfl (by decide +kernel) rfl rfl (by unfold vp_in; decide) rfl T_177 ?_
  refine c_iinc (t := 178) (cs := 73) (ss := 2343) (x := 2) (v := 1) (vs' := [some (.ref (ad30 0)), some (.int 3)]) eX7_init_160 rfl rfl rfl rfl ?_
  refine c_goto (t := 178) (cs := 73) (ss := 2343) (tgt := 142) eX7_init_163 (by decide) ?_
  refine c_iload_n (t := 178) (cs := 73) (ss := 2343) eX7_init_142 rfl ?_
  refine c_iconst (t := 178) (cs := 73) (ss := 2343) (v := 5) eX7_init_143 (by decide +kernel) ?_
  refine c_icmp_ge (t := 178) (cs := 73) (ss := 2343) (tgt := 166) eX7_init_144 (by decide) (fun h => absurd h (by decide)) (fun _ => ?_)
  refine c_aload_n (t := 178) (cs := 73) (ss := 2343) eX7_init_147 rfl ?_
  refine c_get (t := 178) (cs := 73) (ss := 2343) (k := 0) (ci := 6) (i := 9) (j := 65) eX7_init_148 rfl (by decide +kernel) rfl (by decide) iX7 fl_X7_61 rfl (by decide +kernel) ?_
  refine c_iload_n (t := 178) (cs := 73) (ss := 2343) eX7_init_151 rfl ?_
  refine c_new (t := 178) (cs := 73) (ss := 2343) (k := 89) (ci := 3) eX7_init_152 rfl rfl iX4 tyX4 tyX4_ok kl_X7_59 is_X4 in_X4 (df_X4 _) (by decide) (by decide) T_178 (fun ad31 hd31 => ?_)
  rw [← hd31 0 (by decide +kernel), ← hd31 65 (by decide +kernel)]
  refine c_dup (t := 179) (cs := 74) (ss := 2348) eX7_init_155 rfl ?_
  refine c_callN (t := 179) (cs := 74) (ss := 2348) (y' := mX4_init) (d' := 2) (mc' := 2) (ms' := 27) (t1 := 185) (b := ad31 89) [] eX7_init_156 (fun _ h => h.1 _ (List.mem_of_getElem? (i := 4) rfl)) im_X4_init in_X4 cw_X4_init rfl rfl (by decide +kernel) (np := 0) rfl (by decide) (by decide) (by decide) (Nat.le_of_ble_eq_true rfl) rfl (k_X4_89 ad31) (by decide) (fun ad32 hd32 => ?_)
  rw [← hd32 0 (by decide +kernel), ← hd32 65 (by decide +kernel), ← hd32 89 (by decide +kernel)]
  refine c_aast (t := 185) (cs := 76) (ss := 2375) (k := 65) (q0 := 3) (j := 89) (cj := 3) eX7_init_159 rfl (by decide +kernel) rfl (by decide +kernel) rfl rfl (by unfold vp_in; decide) rfl T_185 ?_
  refine c_iinc (t := 186) (cs := 76) (ss := 2375) (x := 3) (v := 1) (vs' := [some (.ref (ad32 0)), some (.int 4)]) eX7_init_160 rfl rfl rfl rfl ?_
  refine c_goto (t := 186) (cs := 76) (ss := 2375) (tgt := 142) eX7_init_163 (by decide) ?_
  refine c_iload_n (t := 186) (cs := 76) (ss := 2375) eX7_init_142 rfl ?_
  refine c_iconst (t := 186) (cs := 76) (ss := 2375) (v := 5) eX7_init_143 (by decide +kernel) ?_
  refine c_icmp_ge (t := 186) (cs := 76) (ss := 2375) (tgt := 166) eX7_init_144 (by decide) (fun h => absurd h (by decide)) (fun _ => ?_)
  refine c_aload_n (t := 186) (cs := 76) (ss := 2375) eX7_init_147 rfl ?_
  refine c_get (t := 186) (cs := 76) (ss := 2375) (k := 0) (ci := 6) (i := 9) (j := 65) eX7_init_148 rfl (by decide +kernel) rfl (by decide) iX7 fl_X7_61 rfl (by decide +kernel) ?_
  refine c_iload_n (t := 186) (cs := 76) (ss := 2375) eX7_init_151 rfl ?_
  refine c_new (t := 186) (cs := 76) (ss := 2375) (k := 92) (ci := 3) eX7_init_152 rfl rfl iX4 tyX4 tyX4_ok kl_X7_59 is_X4 in_X4 (df_X4 _) (by decide) (by decide) T_186 (fun ad33 hd33 => ?_)
  rw [← hd33 0 (by decide +kernel), ← hd33 65 (by decide +kernel)]
  refine c_dup (t := 187) (cs := 77) (ss := 2380) eX7_init_155 rfl ?_
  refine c_callN (t := 187) (cs := 77) (ss := 2380) (y' := mX4_init) (d' := 2) (mc' := 2) (ms' := 27) (t1 := 193) (b := ad33 92) [] eX7_init_156 (fun _ h => h.1 _ (List.mem_of_getElem? (i := 4) rfl)) im_X4_init in_X4 cw_X4_init rfl rfl (by decide +kernel) (np := 0) rfl (by decide) (by decide) (by decide) (Nat.le_of_ble_eq_true rfl) rfl (k_X4_92 ad33) (by decide) (fun ad34 hd34 => ?_)
  rw [← hd34 0 (by decide +kernel), ← hd34 65 (by decide +kernel), ← hd34 92 (by decide +kernel)]
  refine c_aast (t := 193) (cs := 79) (ss := 2407) (k := 65) (q0 := 3) (j := 92) (cj := 3) eX7_init_159 rfl (by decide +kernel) rfl (by decide +kernel) rfl rfl (by unfold vp_in; decide) rfl T_193 ?_
  refine c_iinc (t := 194) (cs := 79) (ss := 2407) (x := 4) (v := 1) (vs' := [some (.ref (ad34 0)), some (.int 5)]) eX7_init_160 rfl rfl rfl rfl ?_
  refine c_goto (t := 194) (cs := 79) (ss := 2407) (tgt := 142) eX7_init_163 (by decide) ?_
  refine c_iload_n (t := 194) (cs := 79) (ss := 2407) eX7_init_142 rfl ?_
  refine c_iconst (t := 194) (cs := 79) (ss := 2407) (v := 5) eX7_init_143 (by decide +kernel) ?_
  refine c_icmp_ge (t := 194) (cs := 79) (ss := 2407) (tgt := 166) eX7_init_144 (by decide) (fun _ => ?_) (fun h => absurd (by decide) h)
  exact c_ret (t := 194) (cs := 79) (ss := 2407) (st := []) eX7_init_166 rfl rfl rfl rfl
