theorem k_X2_1 {l : Launch} {g : GT} {N0 : Nat} (ad : Nat → Nat) : TrC l g N0 1 19 1496 mX2_init [.ref (ad 1)] 2 40 ad := by
  refine TrC.of (by decide +kernel) (Nat.le_of_ble_eq_true rfl) (vs := [some (.ref (ad 1))]) rfl ?_
  refine c_aload_n (t := 2) (cs := 0) (ss := 0) eX2_init_0 rfl ?_
  refine c_obj (t := 2) (cs := 0) (ss := 0) eX2_init_1 om_X2 (by decide) (Nat.le_of_ble_eq_true rfl) ?_
  refine c_aload_n (t := 2) (cs := 0) (ss := 0) eX2_init_4 rfl ?_
  refine c_bipush (t := 2) (cs := 0) (ss := 0) (v := 14) eX2_init_5 (by decide +kernel) ?_
  refine c_bipush (t := 2) (cs := 0) (ss := 0) (v := 96) eX2_init_7 (by decide +kernel) ?_
  refine c_multi (cs := 0) (ss := 0) eX2_init_9 kl_X2_9 (by decide) (by decide) (fun ad1 hd1 => ?_)
  rw [← hd1 1 (by decide +kernel)]
  refine c_putF (t := 31) (cs := 15) (ss := 1358) (k := 1) (ci := 1) (i := 0) eX2_init_13 rfl (by decide +kernel) rfl (by decide) iX2 tyX2 tyX2_ok nmX2 fl_X2_11 (by decide) rfl rfl rfl (ty := .array (.array .int)) rfl rfl rfl T_31 ⟨by decide, rfl⟩ (cel_putR T_31 rfl rfl) ?_
  refine c_aload_n (t := 32) (cs := 15) (ss := 1358) eX2_init_16 rfl ?_
  refine c_bipush (t := 32) (cs := 15) (ss := 1358) (v := 14) eX2_init_17 (by decide +kernel) ?_
  refine c_newa (t := 32) (cs := 15) (ss := 1358) (k := 3) (N := 14) eX2_init_19 rfl (by decide) (by decide) (by decide) (by decide) (by decide) T_32 (fun ad2 hd2 => ?_)
  rw [← hd2 1 (by decide +kernel)]
  refine c_putF (t := 33) (cs := 16) (ss := 1372) (k := 1) (ci := 1) (i := 1) eX2_init_21 rfl (by decide +kernel) rfl (by decide) iX2 tyX2 tyX2_ok nmX2 fl_X2_16 (by decide) rfl rfl rfl (ty := .array .int) rfl rfl rfl T_33 ⟨by decide, rfl⟩ (cel_putR T_33 rfl rfl) ?_
  refine c_aload_n (t := 34) (cs := 16) (ss := 1372) eX2_init_24 rfl ?_
  refine c_bipush (t := 34) (cs := 16) (ss := 1372) (v := 14) eX2_init_25 (by decide +kernel) ?_
  refine c_newa (t := 34) (cs := 16) (ss := 1372) (k := 4) (N := 14) eX2_init_27 rfl (by decide) (by decide) (by decide) (by decide) (by decide) T_34 (fun ad3 hd3 => ?_)
  rw [← hd3 1 (by decide +kernel)]
  refine c_putF (t := 35) (cs := 17) (ss := 1386) (k := 1) (ci := 1) (i := 2) eX2_init_29 rfl (by decide +kernel) rfl (by decide) iX2 tyX2 tyX2_ok nmX2 fl_X2_20 (by decide) rfl rfl rfl (ty := .array .int) rfl rfl rfl T_35 ⟨by decide, rfl⟩ (cel_putR T_35 rfl rfl) ?_
  refine c_aload_n (t := 36) (cs := 17) (ss := 1386) eX2_init_32 rfl ?_
  refine c_bipush (t := 36) (cs := 17) (ss := 1386) (v := 14) eX2_init_33 (by decide +kernel) ?_
  refine c_newa (t := 36) (cs := 17) (ss := 1386) (k := 5) (N := 14) eX2_init_35 rfl (by decide) (by decide) (by decide) (by decide) (by decide) T_36 (fun ad4 hd4 => ?_)
  rw [← hd4 1 (by decide +kernel)]
  refine c_putF (t := 37) (cs := 18) (ss := 1400) (k := 1) (ci := 1) (i := 3) eX2_init_37 rfl (by decide +kernel) rfl (by decide) iX2 tyX2 tyX2_ok nmX2 fl_X2_23 (by decide) rfl rfl rfl (ty := .array .int) rfl rfl rfl T_37 ⟨by decide, rfl⟩ (cel_putR T_37 rfl rfl) ?_
  refine c_aload_n (t := 38) (cs := 18) (ss := 1400) eX2_init_40 rfl ?_
  refine c_bipush (t := 38) (cs := 18) (ss := 1400) (v := 96) eX2_init_41 (by decide +kernel) ?_
  refine c_newa (t := 38) (cs := 18) (ss := 1400) (k := 6) (N := 96) eX2_init_43 rfl (by decide) (by decide) (by decide) (by decide) (by decide) T_38 (fun ad5 hd5 => ?_)
  rw [← hd5 1 (by decide +kernel)]
  refine c_putF (t := 39) (cs := 19) (ss := 1496) (k := 1) (ci := 1) (i := 4) eX2_init_45 rfl (by decide +kernel) rfl (by decide) iX2 tyX2 tyX2_ok nmX2 fl_X2_26 (by decide) rfl rfl rfl (ty := .array .int) rfl rfl rfl T_39 ⟨by decide, rfl⟩ (cel_putR T_39 rfl rfl) ?_
  exact c_ret (t := 40) (cs := 19) (ss := 1496) (st := []) eX2_init_48 rfl rfl rfl rfl
theorem k_X5_21 {l : Launch} {g : GT} {N0 : Nat} (ad : Nat → Nat) : TrC l g N0 1 2 192 mX5_init [.ref (ad 21)] 42 46 ad := by
  refine TrC.of (by decide +kernel) (Nat.le_of_ble_eq_true rfl) (vs := [some (.ref (ad 21))]) rfl ?_
  refine c_aload_n (t := 42) (cs := 0) (ss := 0) eX5_init_0 rfl ?_
  refine c_obj (t := 42) (cs := 0) (ss := 0) eX5_init_1 om_X5 (by decide) (Nat.le_of_ble_eq_true rfl) ?_
  refine c_aload_n (t := 42) (cs := 0) (ss := 0) eX5_init_4 rfl ?_
  refine c_bipush (t := 42) (cs := 0) (ss := 0) (v := 96) eX5_init_5 (by decide +kernel) ?_
  refine c_newa (t := 42) (cs := 0) (ss := 0) (k := 22) (N := 96) eX5_init_7 rfl (by decide) (by decide) (by decide) (by decide) (by decide) T_42 (fun ad1 hd1 => ?_)
  rw [← hd1 21 (by decide +kernel)]
  refine c_putF (t := 43) (cs := 1) (ss := 96) (k := 21) (ci := 4) (i := 0) eX5_init_9 rfl (by decide +kernel) rfl (by decide) iX5 tyX5 tyX5_ok nmX5 fl_X5_9 (by decide) rfl rfl rfl (ty := .array .int) rfl rfl rfl T_43 ⟨by decide, rfl⟩ (cel_putR T_43 rfl rfl) ?_
  refine c_aload_n (t := 44) (cs := 1) (ss := 96) eX5_init_12 rfl ?_
  refine c_bipush (t := 44) (cs := 1) (ss := 96) (v := 96) eX5_init_13 (by decide +kernel) ?_
  refine c_newa (t := 44) (cs := 1) (ss := 96) (k := 23) (N := 96) eX5_init_15 rfl (by decide) (by decide) (by decide) (by decide) (by decide) T_44 (fun ad2 hd2 => ?_)
  rw [← hd2 21 (by decide +kernel)]
  refine c_putF (t := 45) (cs := 2) (ss := 192) (k := 21) (ci := 4) (i := 2) eX5_init_17 rfl (by decide +kernel) rfl (by decide) iX5 tyX5 tyX5_ok nmX5 fl_X5_15 (by decide) rfl rfl rfl (ty := .array .int) rfl rfl rfl T_45 ⟨by decide, rfl⟩ (cel_putR T_45 rfl rfl) ?_
  exact c_ret (t := 46) (cs := 2) (ss := 192) (st := []) eX5_init_20 rfl rfl rfl rfl
theorem k_X6_60 {l : Launch} {g : GT} {N0 : Nat} (ad : Nat → Nat) : TrC l g N0 1 1 80 mX6_init [.ref (ad 60)] 123 125 ad := by
  refine TrC.of (by decide +kernel) (Nat.le_of_ble_eq_true rfl) (vs := [some (.ref (ad 60))]) rfl ?_
  refine c_aload_n (t := 123) (cs := 0) (ss := 0) eX6_init_0 rfl ?_
  refine c_obj (t := 123) (cs := 0) (ss := 0) eX6_init_1 om_X6 (by decide) (Nat.le_of_ble_eq_true rfl) ?_
  refine c_aload_n (t := 123) (cs := 0) (ss := 0) eX6_init_4 rfl ?_
  refine c_bipush (t := 123) (cs := 0) (ss := 0) (v := 80) eX6_init_5 (by decide +kernel) ?_
  refine c_newa (t := 123) (cs := 0) (ss := 0) (k := 61) (N := 80) eX6_init_7 rfl (by decide) (by decide) (by decide) (by decide) (by decide) T_123 (fun ad1 hd1 => ?_)
  rw [← hd1 60 (by decide +kernel)]
  refine c_putF (t := 124) (cs := 1) (ss := 80) (k := 60) (ci := 5) (i := 0) eX6_init_9 rfl (by decide +kernel) rfl (by decide) iX6 tyX6 tyX6_ok nmX6 fl_X6_9 (by decide) rfl rfl rfl (ty := .array .int) rfl rfl rfl T_124 ⟨by decide, rfl⟩ (cel_putR T_124 rfl rfl) ?_
  exact c_ret (t := 125) (cs := 1) (ss := 80) (st := []) eX6_init_12 rfl rfl rfl rfl
theorem k_X3_70 {l : Launch} {g : GT} {N0 : Nat} (ad : Nat → Nat) : TrC l g N0 1 1 24 mX3_init [.ref (ad 70)] 133 136 ad := by
  refine TrC.of (by decide +kernel) (Nat.le_of_ble_eq_true rfl) (vs := [some (.ref (ad 70))]) rfl ?_
  refine c_aload_n (t := 133) (cs := 0) (ss := 0) eX3_init_0 rfl ?_
  refine c_obj (t := 133) (cs := 0) (ss := 0) eX3_init_1 om_X3 (by decide) (Nat.le_of_ble_eq_true rfl) ?_
  refine c_aload_n (t := 133) (cs := 0) (ss := 0) eX3_init_4 rfl ?_
  refine c_iconst (t := 133) (cs := 0) (ss := 0) (v := (-1)) eX3_init_5 (by decide +kernel) ?_
  refine c_put (t := 133) (cs := 0) (ss := 0) (k := 70) (ci := 2) (i := 0) eX3_init_6 rfl (by decide +kernel) rfl (by decide) iX3 tyX3 tyX3_ok nmX3 fl_X3_9 (by decide) rfl (ty := .int) rfl rfl rfl T_133 ⟨by decide, rfl⟩ (cel_putI T_133 rfl rfl) ?_
  refine c_aload_n (t := 134) (cs := 0) (ss := 0) eX3_init_9 rfl ?_
  refine c_bipush (t := 134) (cs := 0) (ss := 0) (v := 24) eX3_init_10 (by decide +kernel) ?_
  refine c_newa (t := 134) (cs := 0) (ss := 0) (k := 71) (N := 24) eX3_init_12 rfl (by decide) (by decide) (by decide) (by decide) (by decide) T_134 (fun ad1 hd1 => ?_)
  rw [← hd1 70 (by decide +kernel)]
  refine c_putF (t := 135) (cs := 1) (ss := 24) (k := 70) (ci := 2) (i := 2) eX3_init_14 rfl (by decide +kernel) rfl (by decide) iX3 tyX3 tyX3_ok nmX3 fl_X3_15 (by decide) rfl rfl rfl (ty := .array .int) rfl rfl rfl T_135 ⟨by decide, rfl⟩ (cel_putR T_135 rfl rfl) ?_
  exact c_ret (t := 136) (cs := 1) (ss := 24) (st := []) eX3_init_17 rfl rfl rfl rfl
theorem k_X3_72 {l : Launch} {g : GT} {N0 : Nat} (ad : Nat → Nat) : TrC l g N0 1 1 24 mX3_init [.ref (ad 72)] 138 141 ad := by
  refine TrC.of (by decide +kernel) (Nat.le_of_ble_eq_true rfl) (vs := [some (.ref (ad 72))]) rfl ?_
  refine c_aload_n (t := 138) (cs := 0) (ss := 0) eX3_init_0 rfl ?_
  refine c_obj (t := 138) (cs := 0) (ss := 0) eX3_init_1 om_X3 (by decide) (Nat.le_of_ble_eq_true rfl) ?_
  refine c_aload_n (t := 138) (cs := 0) (ss := 0) eX3_init_4 rfl ?_
  refine c_iconst (t := 138) (cs := 0) (ss := 0) (v := (-1)) eX3_init_5 (by decide +kernel) ?_
  refine c_put (t := 138) (cs := 0) (ss := 0) (k := 72) (ci := 2) (i := 0) eX3_init_6 rfl (by decide +kernel) rfl (by decide) iX3 tyX3 tyX3_ok nmX3 fl_X3_9 (by decide) rfl (ty := .int) rfl rfl rfl T_138 ⟨by decide, rfl⟩ (cel_putI T_138 rfl rfl) ?_
  refine c_aload_n (t := 139) (cs := 0) (ss := 0) eX3_init_9 rfl ?_
  refine c_bipush (t := 139) (cs := 0) (ss := 0) (v := 24) eX3_init_10 (by decide +kernel) ?_
  refine c_newa (t := 139) (cs := 0) (ss := 0) (k := 73) (N := 24) eX3_init_12 rfl (by decide) (by decide) (by decide) (by decide) (by decide) T_139 (fun ad1 hd1 => ?_)
  rw [← hd1 72 (by decide +kernel)]
  refine c_putF (t := 140) (cs := 1) (ss := 24) (k := 72) (ci := 2) (i := 2) eX3_init_14 rfl (by decide +kernel) rfl (by decide) iX3 tyX3 tyX3_ok nmX3 fl_X3_15 (by decide) rfl rfl rfl (ty := .array .int) rfl rfl rfl T_140 ⟨by decide, rfl⟩ (cel_putR T_140 rfl rfl) ?_
  exact c_ret (t := 141) (cs := 1) (ss := 24) (st := []) eX3_init_17 rfl rfl rfl rfl
theorem k_X3_74 {l : Launch} {g : GT} {N0 : Nat} (ad : Nat → Nat) : TrC l g N0 1 1 24 mX3_init [.ref (ad 74)] 143 146 ad := by
  refine TrC.of (by decide +kernel) (Nat.le_of_ble_eq_true rfl) (vs := [some (.ref (ad 74))]) rfl ?_
  refine c_aload_n (t := 143) (cs := 0) (ss := 0) eX3_init_0 rfl ?_
  refine c_obj (t := 143) (cs := 0) (ss := 0) eX3_init_1 om_X3 (by decide) (Nat.le_of_ble_eq_true rfl) ?_
  refine c_aload_n (t := 143) (cs := 0) (ss := 0) eX3_init_4 rfl ?_
  refine c_iconst (t := 143) (cs := 0) (ss := 0) (v := (-1)) eX3_init_5 (by decide +kernel) ?_
  refine c_put (t := 143) (cs := 0) (ss := 0) (k := 74) (ci := 2) (i := 0) eX3_init_6 rfl (by decide +kernel) rfl (by decide) iX3 tyX3 tyX3_ok nmX3 fl_X3_9 (by decide) rfl (ty := .int) rfl rfl rfl T_143 ⟨by decide, rfl⟩ (cel_putI T_143 rfl rfl) ?_
  refine c_aload_n (t := 144) (cs := 0) (ss := 0) eX3_init_9 rfl ?_
  refine c_bipush (t := 144) (cs := 0) (ss := 0) (v := 24) eX3_init_10 (by decide +kernel) ?_
  refine c_newa (t := 144) (cs := 0) (ss := 0) (k := 75) (N := 24) eX3_init_12 rfl (by decide) (by decide) (by decide) (by decide) (by decide) T_144 (fun ad1 hd1 => ?_)
  rw [← hd1 74 (by decide +kernel)]
  refine c_putF (t := 145) (cs := 1) (ss := 24) (k := 74) (ci := 2) (i := 2) eX3_init_14 rfl (by decide +kernel) rfl (by decide) iX3 tyX3 tyX3_ok nmX3 fl_X3_15 (by decide) rfl rfl rfl (ty := .array .int) rfl rfl rfl T_145 ⟨by decide, rfl⟩ (cel_putR T_145 rfl rfl) ?_
  exact c_ret (t := 146) (cs := 1) (ss := 24) (st := []) eX3_init_17 rfl rfl rfl rfl
theorem k_X3_76 {l : Launch} {g : GT} {N0 : Nat} (ad : Nat → Nat) : TrC l g N0 1 1 24 mX3_init [.ref (ad 76)] 148 151 ad := by
  refine TrC.of (by decide +kernel) (Nat.le_of_ble_eq_true rfl) (vs := [some (.ref (ad 76))]) rfl ?_
  refine c_aload_n (t := 148) (cs := 0) (ss := 0) eX3_init_0 rfl ?_
  refine c_obj (t := 148) (cs := 0) (ss := 0) eX3_init_1 om_X3 (by decide) (Nat.le_of_ble_eq_true rfl) ?_
  refine c_aload_n (t := 148) (cs := 0) (ss := 0) eX3_init_4 rfl ?_
  refine c_iconst (t := 148) (cs := 0) (ss := 0) (v := (-1)) eX3_init_5 (by decide +kernel) ?_
  refine c_put (t := 148) (cs := 0) (ss := 0) (k := 76) (ci := 2) (i := 0) eX3_init_6 rfl (by decide +kernel) rfl (by decide) iX3 tyX3 tyX3_ok nmX3 fl_X3_9 (by decide) rfl (ty := .int) rfl rfl rfl T_148 ⟨by decide, rfl⟩ (cel_putI T_148 rfl rfl) ?_
  refine c_aload_n (t := 149) (cs := 0) (ss := 0) eX3_init_9 rfl ?_
  refine c_bipush (t := 149) (cs := 0) (ss := 0) (v := 24) eX3_init_10 (by decide +kernel) ?_
  refine c_newa (t := 149) (cs := 0) (ss := 0) (k := 77) (N := 24) eX3_init_12 rfl (by decide) (by decide) (by decide) (by decide) (by decide) T_149 (fun ad1 hd1 => ?_)
  rw [← hd1 76 (by decide +kernel)]
  refine c_putF (t := 150) (cs := 1) (ss := 24) (k := 76) (ci := 2) (i := 2) eX3_init_14 rfl (by decide +kernel) rfl (by decide) iX3 tyX3 tyX3_ok nmX3 fl_X3_15 (by decide) rfl rfl rfl (ty := .array .int) rfl rfl rfl T_150 ⟨by decide, rfl⟩ (cel_putR T_150 rfl rfl) ?_
  exact c_ret (t := 151) (cs := 1) (ss := 24) (st := []) eX3_init_17 rfl rfl rfl rfl
theorem k_X3_81 {l : Launch} {g : GT} {N0 : Nat} (ad : Nat → Nat) : TrC l g N0 1 1 24 mX3_init [.ref (ad 81)] 157 160 ad := by
  refine TrC.of (by decide +kernel) (Nat.le_of_ble_eq_true rfl) (vs := [some (.ref (ad 81))]) rfl ?_
  refine c_aload_n (t := 157) (cs := 0) (ss := 0) eX3_init_0 rfl ?_
  refine c_obj (t := 157) (cs := 0) (ss := 0) eX3_init_1 om_X3 (by decide) (Nat.le_of_ble_eq_true rfl) ?_
  refine c_aload_n (t := 157) (cs := 0) (ss := 0) eX3_init_4 rfl ?_
  refine c_iconst (t := 157) (cs := 0) (ss := 0) (v := (-1)) eX3_init_5 (by decide +kernel) ?_
  refine c_put (t := 157) (cs := 0) (ss := 0) (k := 81) (ci := 2) (i := 0) eX3_init_6 rfl (by decide +kernel) rfl (by decide) iX3 tyX3 tyX3_ok nmX3 fl_X3_9 (by decide) rfl (ty := .int) rfl rfl rfl T_157 ⟨by decide, rfl⟩ (cel_putI T_157 rfl rfl) ?_
  refine c_aload_n (t := 158) (cs := 0) (ss := 0) eX3_init_9 rfl ?_
  refine c_bipush (t := 158) (cs := 0) (ss := 0) (v := 24) eX3_init_10 (by decide +kernel) ?_
  refine c_newa (t := 158) (cs := 0) (ss := 0) (k := 82) (N := 24) eX3_init_12 rfl (by decide) (by decide) (by decide) (by decide) (by decide) T_158 (fun ad1 hd1 => ?_)
  rw [← hd1 81 (by decide +kernel)]
  refine c_putF (t := 159) (cs := 1) (ss := 24) (k := 81) (ci := 2) (i := 2) eX3_init_14 rfl (by decide +kernel) rfl (by decide) iX3 tyX3 tyX3_ok nmX3 fl_X3_15 (by decide) rfl rfl rfl (ty := .array .int) rfl rfl rfl T_159 ⟨by decide, rfl⟩ (cel_putR T_159 rfl rfl) ?_
  exact c_ret (t := 160) (cs := 1) (ss := 24) (st := []) eX3_init_17 rfl rfl rfl rfl
theorem k_X4_80 {l : Launch} {g : GT} {N0 : Nat} (ad : Nat → Nat) : TrC l g N0 2 2 27 mX4_init [.ref (ad 80)] 155 161 ad := by
  refine TrC.of (by decide +kernel) (Nat.le_of_ble_eq_true rfl) (vs := [some (.ref (ad 80))]) rfl ?_
  refine c_aload_n (t := 155) (cs := 0) (ss := 0) eX4_init_0 rfl ?_
  refine c_obj (t := 155) (cs := 0) (ss := 0) eX4_init_1 om_X4 (by decide) (Nat.le_of_ble_eq_true rfl) ?_
  refine c_aload_n (t := 155) (cs := 0) (ss := 0) eX4_init_4 rfl ?_
  refine c_iconst (t := 155) (cs := 0) (ss := 0) (v := 0) eX4_init_5 (by decide +kernel) ?_
  refine c_put (t := 155) (cs := 0) (ss := 0) (k := 80) (ci := 3) (i := 0) eX4_init_6 rfl (by decide +kernel) rfl (by decide) iX4 tyX4 tyX4_ok nmX4 fl_X4_9 (by decide) rfl (ty := .int) rfl rfl rfl T_155 ⟨by decide, rfl⟩ (cel_putI T_155 rfl rfl) ?_
  refine c_aload_n (t := 156) (cs := 0) (ss := 0) eX4_init_9 rfl ?_
  refine c_new (t := 156) (cs := 0) (ss := 0) (k := 81) (ci := 2) eX4_init_10 rfl rfl iX3 tyX3 tyX3_ok kl_X4_15 is_X3 in_X3 (df_X3 _) (by decide) (by decide) T_156 (fun ad1 hd1 => ?_)
  rw [← hd1 80 (by decide +kernel)]
  refine c_dup (t := 157) (cs := 1) (ss := 3) eX4_init_13 rfl ?_
  refine c_callN (t := 157) (cs := 1) (ss := 3) (y' := mX3_init) (d' := 1) (mc' := 1) (ms' := 24) (t1 := 160) (b := ad1 81) [] eX4_init_14 (fun _ h => h.1 _ (List.mem_of_getElem? (i := 5) rfl)) im_X3_init in_X3 cw_X3_init rfl rfl (by decide +kernel) (np := 0) rfl (by decide) (by decide) (by decide) (Nat.le_of_ble_eq_true rfl) rfl (k_X3_81 ad1) (by decide) (fun ad2 hd2 => ?_)
  rw [← hd2 80 (by decide +kernel), ← hd2 81 (by decide +kernel)]
  refine c_putF (t := 160) (cs := 2) (ss := 27) (k := 80) (ci := 3) (i := 3) eX4_init_17 rfl (by decide +kernel) rfl (by decide) iX4 tyX4 tyX4_ok nmX4 fl_X4_18 (by decide) rfl rfl rfl (ty := .object "TattooRoads$Sheet") rfl rfl rfl T_160 ⟨by decide, rfl⟩ (cel_putR T_160 rfl rfl) ?_
  exact c_ret (t := 161) (cs := 2) (ss := 27) (st := []) eX4_init_20 rfl rfl rfl rfl
theorem k_X3_84 {l : Launch} {g : GT} {N0 : Nat} (ad : Nat → Nat) : TrC l g N0 1 1 24 mX3_init [.ref (ad 84)] 165 168 ad := by
  refine TrC.of (by decide +kernel) (Nat.le_of_ble_eq_true rfl) (vs := [some (.ref (ad 84))]) rfl ?_
  refine c_aload_n (t := 165) (cs := 0) (ss := 0) eX3_init_0 rfl ?_
  refine c_obj (t := 165) (cs := 0) (ss := 0) eX3_init_1 om_X3 (by decide) (Nat.le_of_ble_eq_true rfl) ?_
  refine c_aload_n (t := 165) (cs := 0) (ss := 0) eX3_init_4 rfl ?_
  refine c_iconst (t := 165) (cs := 0) (ss := 0) (v := (-1)) eX3_init_5 (by decide +kernel) ?_
  refine c_put (t := 165) (cs := 0) (ss := 0) (k := 84) (ci := 2) (i := 0) eX3_init_6 rfl (by decide +kernel) rfl (by decide) iX3 tyX3 tyX3_ok nmX3 fl_X3_9 (by decide) rfl (ty := .int) rfl rfl rfl T_165 ⟨by decide, rfl⟩ (cel_putI T_165 rfl rfl) ?_
  refine c_aload_n (t := 166) (cs := 0) (ss := 0) eX3_init_9 rfl ?_
  refine c_bipush (t := 166) (cs := 0) (ss := 0) (v := 24) eX3_init_10 (by decide +kernel) ?_
  refine c_newa (t := 166) (cs := 0) (ss := 0) (k := 85) (N := 24) eX3_init_12 rfl (by decide) (by decide) (by decide) (by decide) (by decide) T_166 (fun ad1 hd1 => ?_)
  rw [← hd1 84 (by decide +kernel)]
  refine c_putF (t := 167) (cs := 1) (ss := 24) (k := 84) (ci := 2) (i := 2) eX3_init_14 rfl (by decide +kernel) rfl (by decide) iX3 tyX3 tyX3_ok nmX3 fl_X3_15 (by decide) rfl rfl rfl (ty := .array .int) rfl rfl rfl T_167 ⟨by decide, rfl⟩ (cel_putR T_167 rfl rfl) ?_
  exact c_ret (t := 168) (cs := 1) (ss := 24) (st := []) eX3_init_17 rfl rfl rfl rfl
theorem k_X4_83 {l : Launch} {g : GT} {N0 : Nat} (ad : Nat → Nat) : TrC l g N0 2 2 27 mX4_init [.ref (ad 83)] 163 169 ad := by
  refine TrC.of (by decide +kernel) (Nat.le_of_ble_eq_true rfl) (vs := [some (.ref (ad 83))]) rfl ?_
  refine c_aload_n (t := 163) (cs := 0) (ss := 0) eX4_init_0 rfl ?_
  refine c_obj (t := 163) (cs := 0) (ss := 0) eX4_init_1 om_X4 (by decide) (Nat.le_of_ble_eq_true rfl) ?_
  refine c_aload_n (t := 163) (cs := 0) (ss := 0) eX4_init_4 rfl ?_
  refine c_iconst (t := 163) (cs := 0) (ss := 0) (v := 0) eX4_init_5 (by decide +kernel) ?_
  refine c_put (t := 163) (cs := 0) (ss := 0) (k := 83) (ci := 3) (i := 0) eX4_init_6 rfl (by decide +kernel) rfl (by decide) iX4 tyX4 tyX4_ok nmX4 fl_X4_9 (by decide) rfl (ty := .int) rfl rfl rfl T_163 ⟨by decide, rfl⟩ (cel_putI T_163 rfl rfl) ?_
  refine c_aload_n (t := 164) (cs := 0) (ss := 0) eX4_init_9 rfl ?_
  refine c_new (t := 164) (cs := 0) (ss := 0) (k := 84) (ci := 2) eX4_init_10 rfl rfl iX3 tyX3 tyX3_ok kl_X4_15 is_X3 in_X3 (df_X3 _) (by decide) (by decide) T_164 (fun ad1 hd1 => ?_)
  rw [← hd1 83 (by decide +kernel)]
  refine c_dup (t := 165) (cs := 1) (ss := 3) eX4_init_13 rfl ?_
  refine c_callN (t := 165) (cs := 1) (ss := 3) (y' := mX3_init) (d' := 1) (mc' := 1) (ms' := 24) (t1 := 168) (b := ad1 84) [] eX4_init_14 (fun _ h => h.1 _ (List.mem_of_getElem? (i := 5) rfl)) im_X3_init in_X3 cw_X3_init rfl rfl (by decide +kernel) (np := 0) rfl (by decide) (by decide) (by decide) (Nat.le_of_ble_eq_true rfl) rfl (k_X3_84 ad1) (by decide) (fun ad2 hd2 => ?_)
  rw [← hd2 83 (by decide +kernel), ← hd2 84 (by decide +kernel)]
  refine c_putF (t := 168) (cs := 2) (ss := 27) (k := 83) (ci := 3) (i := 3) eX4_init_17 rfl (by decide +kernel) rfl (by decide) iX4 tyX4 tyX4_ok nmX4 fl_X4_18 (by decide) rfl rfl rfl (ty := .object "TattooRoads$Sheet") rfl rfl rfl T_168 ⟨by decide, rfl⟩ (cel_putR T_168 rfl rfl) ?_
  exact c_ret (t := 169) (cs := 2) (ss := 27) (st := []) eX4_init_20 rfl rfl rfl rfl
theorem k_X3_87 {l : Launch} {g : GT} {N0 : Nat} (ad : Nat → Nat) : TrC l g N0 1 1 24 mX3_init [.ref (ad 87)] 173 176 ad := by
  refine TrC.of (by decide +kernel) (Nat.le_of_ble_eq_true rfl) (vs := [some (.ref (ad 87))]) rfl ?_
  refine c_aload_n (t := 173) (cs := 0) (ss := 0) eX3_init_0 rfl ?_
  refine c_obj (t := 173) (cs := 0) (ss := 0) eX3_init_1 om_X3 (by decide) (Nat.le_of_ble_eq_true rfl) ?_
  refine c_aload_n (t := 173) (cs := 0) (ss := 0) eX3_init_4 rfl ?_
  refine c_iconst (t := 173) (cs := 0) (ss := 0) (v := (-1)) eX3_init_5 (by decide +kernel) ?_
  refine c_put (t := 173) (cs := 0) (ss := 0) (k := 87) (ci := 2) (i := 0) eX3_init_6 rfl (by decide +kernel) rfl (by decide) iX3 tyX3 tyX3_ok nmX3 fl_X3_9 (by decide) rfl (ty := .int) rfl rfl rfl T_173 ⟨by decide, rfl⟩ (cel_putI T_173 rfl rfl) ?_
  refine c_aload_n (t := 174) (cs := 0) (ss := 0) eX3_init_9 rfl ?_
  refine c_bipush (t := 174) (cs := 0) (ss := 0) (v := 24) eX3_init_10 (by decide +kernel) ?_
  refine c_newa (t := 174) (cs := 0) (ss := 0) (k := 88) (N := 24) eX3_init_12 rfl (by decide) (by decide) (by decide) (by decide) (by decide) T_174 (fun ad1 hd1 => ?_)
  rw [← hd1 87 (by decide +kernel)]
  refine c_putF (t := 175) (cs := 1) (ss := 24) (k := 87) (ci := 2) (i := 2) eX3_init_14 rfl (by decide +kernel) rfl (by decide) iX3 tyX3 tyX3_ok nmX3 fl_X3_15 (by decide) rfl rfl rfl (ty := .array .int) rfl rfl rfl T_175 ⟨by decide, rfl⟩ (cel_putR T_175 rfl rfl) ?_
  exact c_ret (t := 176) (cs := 1) (ss := 24) (st := []) eX3_init_17 rfl rfl rfl rfl
theorem k_X4_86 {l : Launch} {g : GT} {N0 : Nat} (ad : Nat → Nat) : TrC l g N0 2 2 27 mX4_init [.ref (ad 86)] 171 177 ad := by
  refine TrC.of (by decide +kernel) (Nat.le_of_ble_eq_true rfl) (vs := [some (.ref (ad 86))]) rfl ?_
  refine c_aload_n (t := 171) (cs := 0) (ss := 0) eX4_init_0 rfl ?_
  refine c_obj (t := 171) (cs := 0) (ss := 0) eX4_init_1 om_X4 (by decide) (Nat.le_of_ble_eq_true rfl) ?_
  refine c_aload_n (t := 171) (cs := 0) (ss := 0) eX4_init_4 rfl ?_
  refine c_iconst (t := 171) (cs := 0) (ss := 0) (v := 0) eX4_init_5 (by decide +kernel) ?_
  refine c_put (t := 171) (cs := 0) (ss := 0) (k := 86) (ci := 3) (i := 0) eX4_init_6 rfl (by decide +kernel) rfl (by decide) iX4 tyX4 tyX4_ok nmX4 fl_X4_9 (by decide) rfl (ty := .int) rfl rfl rfl T_171 ⟨by decide, rfl⟩ (cel_putI T_171 rfl rfl) ?_
  refine c_aload_n (t := 172) (cs := 0) (ss := 0) eX4_init_9 rfl ?_
  refine c_new (t := 172) (cs := 0) (ss := 0) (k := 87) (ci := 2) eX4_init_10 rfl rfl iX3 tyX3 tyX3_ok kl_X4_15 is_X3 in_X3 (df_X3 _) (by decide) (by decide) T_172 (fun ad1 hd1 => ?_)
  rw [← hd1 86 (by decide +kernel)]
  refine c_dup (t := 173) (cs := 1) (ss := 3) eX4_init_13 rfl ?_
  refine c_callN (t := 173) (cs := 1) (ss := 3) (y' := mX3_init) (d' := 1) (mc' := 1) (ms' := 24) (t1 := 176) (b := ad1 87) [] eX4_init_14 (fun _ h => h.1 _ (List.mem_of_getElem? (i := 5) rfl)) im_X3_init in_X3 cw_X3_init rfl rfl (by decide +kernel) (np := 0) rfl (by decide) (by decide) (by decide) (Nat.le_of_ble_eq_true rfl) rfl (k_X3_87 ad1) (by decide) (fun ad2 hd2 => ?_)
  rw [← hd2 86 (by decide +kernel), ← hd2 87 (by decide +kernel)]
  refine c_putF (t := 176) (cs := 2) (ss := 27) (k := 86) (ci := 3) (i := 3) eX4_init_17 rfl (by decide +kernel) rfl (by decide) iX4 tyX4 tyX4_ok nmX4 fl_X4_18 (by decide) rfl rfl rfl (ty := .object "TattooRoads$Sheet") rfl rfl rfl T_176 ⟨by decide, rfl⟩ (cel_putR T_176 rfl rfl) ?_
  exact c_ret (t := 177) (cs := 2) (ss := 27) (st := []) eX4_init_20 rfl rfl rfl rfl
theorem k_X3_90 {l : Launch} {g : GT} {N0 : Nat} (ad : Nat → Nat) : TrC l g N0 1 1 24 mX3_init [.ref (ad 90)] 181 184 ad := by
  refine TrC.of (by decide +kernel) (Nat.le_of_ble_eq_true rfl) (vs := [some (.ref (ad 90))]) rfl ?_
  refine c_aload_n (t := 181) (cs := 0) (ss := 0) eX3_init_0 rfl ?_
  refine c_obj (t := 181) (cs := 0) (ss := 0) eX3_init_1 om_X3 (by decide) (Nat.le_of_ble_eq_true rfl) ?_
  refine c_aload_n (t := 181) (cs := 0) (ss := 0) eX3_init_4 rfl ?_
  refine c_iconst (t := 181) (cs := 0) (ss := 0) (v := (-1)) eX3_init_5 (by decide +kernel) ?_
  refine c_put (t := 181) (cs := 0) (ss := 0) (k := 90) (ci := 2) (i := 0) eX3_init_6 rfl (by decide +kernel) rfl (by decide) iX3 tyX3 tyX3_ok nmX3 fl_X3_9 (by decide) rfl (ty := .int) rfl rfl rfl T_181 ⟨by decide, rfl⟩ (cel_putI T_181 rfl rfl) ?_
  refine c_aload_n (t := 182) (cs := 0) (ss := 0) eX3_init_9 rfl ?_
  refine c_bipush (t := 182) (cs := 0) (ss := 0) (v := 24) eX3_init_10 (by decide +kernel) ?_
  refine c_newa (t := 182) (cs := 0) (ss := 0) (k := 91) (N := 24) eX3_init_12 rfl (by decide) (by decide) (by decide) (by decide) (by decide) T_182 (fun ad1 hd1 => ?_)
  rw [← hd1 90 (by decide +kernel)]
  refine c_putF (t := 183) (cs := 1) (ss := 24) (k := 90) (ci := 2) (i := 2) eX3_init_14 rfl (by decide +kernel) rfl (by decide) iX3 tyX3 tyX3_ok nmX3 fl_X3_15 (by decide) rfl rfl rfl (ty := .array .int) rfl rfl rfl T_183 ⟨by decide, rfl⟩ (cel_putR T_183 rfl rfl) ?_
  exact c_ret (t := 184) (cs := 1) (ss := 24) (st := []) eX3_init_17 rfl rfl rfl rfl
theorem k_X4_89 {l : Launch} {g : GT} {N0 : Nat} (ad : Nat → Nat) : TrC l g N0 2 2 27 mX4_init [.ref (ad 89)] 179 185 ad := by
  refine TrC.of (by decide +kernel) (Nat.le_of_ble_eq_true rfl) (vs := [some (.ref (ad 89))]) rfl ?_
  refine c_aload_n (t := 179) (cs := 0) (ss := 0) eX4_init_0 rfl ?_
  refine c_obj (t := 179) (cs := 0) (ss := 0) eX4_init_1 om_X4 (by decide) (Nat.le_of_ble_eq_true rfl) ?_
  refine c_aload_n (t := 179) (cs := 0) (ss := 0) eX4_init_4 rfl ?_
  refine c_iconst (t := 179) (cs := 0) (ss := 0) (v := 0) eX4_init_5 (by decide +kernel) ?_
  refine c_put (t := 179) (cs := 0) (ss := 0) (k := 89) (ci := 3) (i := 0) eX4_init_6 rfl (by decide +kernel) rfl (by decide) iX4 tyX4 tyX4_ok nmX4 fl_X4_9 (by decide) rfl (ty := .int) rfl rfl rfl T_179 ⟨by decide, rfl⟩ (cel_putI T_179 rfl rfl) ?_
  refine c_aload_n (t := 180) (cs := 0) (ss := 0) eX4_init_9 rfl ?_
  refine c_new (t := 180) (cs := 0) (ss := 0) (k := 90) (ci := 2) eX4_init_10 rfl rfl iX3 tyX3 tyX3_ok kl_X4_15 is_X3 in_X3 (df_X3 _) (by decide) (by decide) T_180 (fun ad1 hd1 => ?_)
  rw [← hd1 89 (by decide +kernel)]
  refine c_dup (t := 181) (cs := 1) (ss := 3) eX4_init_13 rfl ?_
  refine c_callN (t := 181) (cs := 1) (ss := 3) (y' := mX3_init) (d' := 1) (mc' := 1) (ms' := 24) (t1 := 184) (b := ad1 90) [] eX4_init_14 (fun _ h => h.1 _ (List.mem_of_getElem? (i := 5) rfl)) im_X3_init in_X3 cw_X3_init rfl rfl (by decide +kernel) (np := 0) rfl (by decide) (by decide) (by decide) (Nat.le_of_ble_eq_true rfl) rfl (k_X3_90 ad1) (by decide) (fun ad2 hd2 => ?_)
  rw [← hd2 89 (by decide +kernel), ← hd2 90 (by decide +kernel)]
  refine c_putF (t := 184) (cs := 2) (ss := 27) (k := 89) (ci := 3) (i := 3) eX4_init_17 rfl (by decide +kernel) rfl (by decide) iX4 tyX4 tyX4_ok nmX4 fl_X4_18 (by decide) rfl rfl rfl (ty := .object "TattooRoads$Sheet") rfl rfl rfl T_184 ⟨by decide, rfl⟩ (cel_putR T_184 rfl rfl) ?_
  exact c_ret (t := 185) (cs := 2) (ss := 27) (st := []) eX4_init_20 rfl rfl rfl rfl
theorem k_X3_93 {l : Launch} {g : GT} {N0 : Nat} (ad : Nat → Nat) : TrC l g N0 1 1 24 mX3_init [.ref (ad 93)] 189 192 ad := by
  refine TrC.of (by decide +kernel) (Nat.le_of_ble_eq_true rfl) (vs := [some (.ref (ad 93))]) rfl ?_
  refine c_aload_n (t := 189) (cs := 0) (ss := 0) eX3_init_0 rfl ?_
  refine c_obj (t := 189) (cs := 0) (ss := 0) eX3_init_1 om_X3 (by decide) (Nat.le_of_ble_eq_true rfl) ?_
  refine c_aload_n (t := 189) (cs := 0) (ss := 0) eX3_init_4 rfl ?_
  refine c_iconst (t := 189) (cs := 0) (ss := 0) (v := (-1)) eX3_init_5 (by decide +kernel) ?_
  refine c_put (t := 189) (cs := 0) (ss := 0) (k := 93) (ci := 2) (i := 0) eX3_init_6 rfl (by decide +kernel) rfl (by decide) iX3 tyX3 tyX3_ok nmX3 fl_X3_9 (by decide) rfl (ty := .int) rfl rfl rfl T_189 ⟨by decide, rfl⟩ (cel_putI T_189 rfl rfl) ?_
  refine c_aload_n (t := 190) (cs := 0) (ss := 0) eX3_init_9 rfl ?_
  refine c_bipush (t := 190) (cs := 0) (ss := 0) (v := 24) eX3_init_10 (by decide +kernel) ?_
  refine c_newa (t := 190) (cs := 0) (ss := 0) (k := 94) (N := 24) eX3_init_12 rfl (by decide) (by decide) (by decide) (by decide) (by decide) T_190 (fun ad1 hd1 => ?_)
  rw [← hd1 93 (by decide +kernel)]
  refine c_putF (t := 191) (cs := 1) (ss := 24) (k := 93) (ci := 2) (i := 2) eX3_init_14 rfl (by decide +kernel) rfl (by decide) iX3 tyX3 tyX3_ok nmX3 fl_X3_15 (by decide) rfl rfl rfl (ty := .array .int) rfl rfl rfl T_191 ⟨by decide, rfl⟩ (cel_putR T_191 rfl rfl) ?_
  exact c_ret (t := 192) (cs := 1) (ss := 24) (st := []) eX3_init_17 rfl rfl rfl rfl
theorem k_X4_92 {l : Launch} {g : GT} {N0 : Nat} (ad : Nat → Nat) : TrC l g N0 2 2 27 mX4_init [.ref (ad 92)] 187 193 ad := by
  refine TrC.of (by decide +kernel) (Nat.le_of_ble_eq_true rfl) (vs := [some (.ref (ad 92))]) rfl ?_
  refine c_aload_n (t := 187) (cs := 0) (ss := 0) eX4_init_0 rfl ?_
  refine c_obj (t := 187) (cs := 0) (ss := 0) eX4_init_1 om_X4 (by decide) (Nat.le_of_ble_eq_true rfl) ?_
  refine c_aload_n (t := 187) (cs := 0) (ss := 0) eX4_init_4 rfl ?_
  refine c_iconst (t := 187) (cs := 0) (ss := 0) (v := 0) eX4_init_5 (by decide +kernel) ?_
  refine c_put (t := 187) (cs := 0) (ss := 0) (k := 92) (ci := 3) (i := 0) eX4_init_6 rfl (by decide +kernel) rfl (by decide) iX4 tyX4 tyX4_ok nmX4 fl_X4_9 (by decide) rfl (ty := .int) rfl rfl rfl T_187 ⟨by decide, rfl⟩ (cel_putI T_187 rfl rfl) ?_
  refine c_aload_n (t := 188) (cs := 0) (ss := 0) eX4_init_9 rfl ?_
  refine c_new (t := 188) (cs := 0) (ss := 0) (k := 93) (ci := 2) eX4_init_10 rfl rfl iX3 tyX3 tyX3_ok kl_X4_15 is_X3 in_X3 (df_X3 _) (by decide) (by decide) T_188 (fun ad1 hd1 => ?_)
  rw [← hd1 92 (by decide +kernel)]
  refine c_dup (t := 189) (cs := 1) (ss := 3) eX4_init_13 rfl ?_
  refine c_callN (t := 189) (cs := 1) (ss := 3) (y' := mX3_init) (d' := 1) (mc' := 1) (ms' := 24) (t1 := 192) (b := ad1 93) [] eX4_init_14 (fun _ h => h.1 _ (List.mem_of_getElem? (i := 5) rfl)) im_X3_init in_X3 cw_X3_init rfl rfl (by decide +kernel) (np := 0) rfl (by decide) (by decide) (by decide) (Nat.le_of_ble_eq_true rfl) rfl (k_X3_93 ad1) (by decide) (fun ad2 hd2 => ?_)
  rw [← hd2 92 (by decide +kernel), ← hd2 93 (by decide +kernel)]
  refine c_putF (t := 192) (cs := 2) (ss := 27) (k := 92) (ci := 3) (i := 3) eX4_init_17 rfl (by decide +kernel) rfl (by decide) iX4 tyX4 tyX4_ok nmX4 fl_X4_18 (by decide) rfl rfl rfl (ty := .object "TattooRoads$Sheet") rfl rfl rfl T_192 ⟨by decide, rfl⟩ (cel_putR T_192 rfl rfl) ?_
  exact c_ret (t := 193) (cs := 2) (ss := 27) (st := []) eX4_init_20 rfl rfl rfl rfl
