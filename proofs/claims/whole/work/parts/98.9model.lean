set_option maxHeartbeats 4000000 in
theorem k_X8_100 {l : Launch} {g : GT} {N0 : Nat} (ad : Nat → Nat) : TrC l g N0 1 19 10058 mX8_init [.ref (ad 100)] 195 240 ad := by
  refine TrC.of (by decide +kernel) (Nat.le_of_ble_eq_true rfl) (vs := [some (.ref (ad 100)), none]) rfl ?_
  refine c_aload_n (t := 195) (cs := 0) (ss := 0) eX8_init_0 rfl ?_
  refine c_obj (t := 195) (cs := 0) (ss := 0) eX8_init_1 om_X8 (by decide) (Nat.le_of_ble_eq_true rfl) ?_
  refine c_aload_n (t := 195) (cs := 0) (ss := 0) eX8_init_4 rfl ?_
  refine c_sipush (t := 195) (cs := 0) (ss := 0) (v := 3084) eX8_init_5 (by decide +kernel) ?_
  refine c_newa (t := 195) (cs := 0) (ss := 0) (k := 101) (N := 3084) eX8_init_8 rfl (by decide) (by decide) (by decide) (by decide) (by decide) T_195 (fun ad1 hd1 => ?_)
  rw [← hd1 100 (by decide +kernel)]
  refine c_putF (t := 196) (cs := 1) (ss := 3084) (k := 100) (ci := 7) (i := 0) eX8_init_10 rfl (by decide +kernel) rfl (by decide) iX8 tyX8 tyX8_ok nmX8 fl_X8_7 (by decide) rfl rfl rfl (ty := .array .int) rfl rfl rfl T_196 ⟨by decide, rfl⟩ (cel_putR T_196 rfl rfl) ?_
  refine c_aload_n (t := 197) (cs := 1) (ss := 3084) eX8_init_13 rfl ?_
  refine c_sipush (t := 197) (cs := 1) (ss := 3084) (v := 3084) eX8_init_14 (by decide +kernel) ?_
  refine c_newa (t := 197) (cs := 1) (ss := 3084) (k := 102) (N := 3084) eX8_init_17 rfl (by decide) (by decide) (by decide) (by decide) (by decide) T_197 (fun ad2 hd2 => ?_)
  rw [← hd2 100 (by decide +kernel)]
  refine c_putF (t := 198) (cs := 2) (ss := 6168) (k := 100) (ci := 7) (i := 1) eX8_init_19 rfl (by decide +kernel) rfl (by decide) iX8 tyX8 tyX8_ok nmX8 fl_X8_13 (by decide) rfl rfl rfl (ty := .array .int) rfl rfl rfl T_198 ⟨by decide, rfl⟩ (cel_putR T_198 rfl rfl) ?_
  refine c_aload_n (t := 199) (cs := 2) (ss := 6168) eX8_init_22 rfl ?_
  refine c_sipush (t := 199) (cs := 2) (ss := 6168) (v := 3084) eX8_init_23 (by decide +kernel) ?_
  refine c_newa (t := 199) (cs := 2) (ss := 6168) (k := 103) (N := 3084) eX8_init_26 rfl (by decide) (by decide) (by decide) (by decide) (by decide) T_199 (fun ad3 hd3 => ?_)
  rw [← hd3 100 (by decide +kernel)]
  refine c_putF (t := 200) (cs := 3) (ss := 9252) (k := 100) (ci := 7) (i := 2) eX8_init_28 rfl (by decide +kernel) rfl (by decide) iX8 tyX8 tyX8_ok nmX8 fl_X8_16 (by decide) rfl rfl rfl (ty := .array .int) rfl rfl rfl T_200 ⟨by decide, rfl⟩ (cel_putR T_200 rfl rfl) ?_
  refine c_aload_n (t := 201) (cs := 3) (ss := 9252) eX8_init_31 rfl ?_
  refine c_iconst (t := 201) (cs := 3) (ss := 9252) (v := 4) eX8_init_32 (by decide +kernel) ?_
  refine c_newa (t := 201) (cs := 3) (ss := 9252) (k := 104) (N := 4) eX8_init_33 rfl (by decide) (by decide) (by decide) (by decide) (by decide) T_201 (fun ad4 hd4 => ?_)
  rw [← hd4 100 (by decide +kernel)]
  refine c_putF (t := 202) (cs := 4) (ss := 9256) (k := 100) (ci := 7) (i := 4) eX8_init_35 rfl (by decide +kernel) rfl (by decide) iX8 tyX8 tyX8_ok nmX8 fl_X8_19 (by decide) rfl rfl rfl (ty := .array .int) rfl rfl rfl T_202 ⟨by decide, rfl⟩ (cel_putR T_202 rfl rfl) ?_
  refine c_aload_n (t := 203) (cs := 4) (ss := 9256) eX8_init_38 rfl ?_
  refine c_iconst (t := 203) (cs := 4) (ss := 9256) (v := 4) eX8_init_39 (by decide +kernel) ?_
  refine c_newa (t := 203) (cs := 4) (ss := 9256) (k := 105) (N := 4) eX8_init_40 rfl (by decide) (by decide) (by decide) (by decide) (by decide) T_203 (fun ad5 hd5 => ?_)
  rw [← hd5 100 (by decide +kernel)]
  refine c_putF (t := 204) (cs := 5) (ss := 9260) (k := 100) (ci := 7) (i := 5) eX8_init_42 rfl (by decide +kernel) rfl (by decide) iX8 tyX8 tyX8_ok nmX8 fl_X8_22 (by decide) rfl rfl rfl (ty := .array .int) rfl rfl rfl T_204 ⟨by decide, rfl⟩ (cel_putR T_204 rfl rfl) ?_
  refine c_aload_n (t := 205) (cs := 5) (ss := 9260) eX8_init_45 rfl ?_
  refine c_bipush (t := 205) (cs := 5) (ss := 9260) (v := 96) eX8_init_46 (by decide +kernel) ?_
  refine c_newa (t := 205) (cs := 5) (ss := 9260) (k := 106) (N := 96) eX8_init_48 rfl (by decide) (by decide) (by decide) (by decide) (by decide) T_205 (fun ad6 hd6 => ?_)
  rw [← hd6 100 (by decide +kernel)]
  refine c_putF (t := 206) (cs := 6) (ss := 9356) (k := 100) (ci := 7) (i := 6) eX8_init_50 rfl (by decide +kernel) rfl (by decide) iX8 tyX8 tyX8_ok nmX8 fl_X8_25 (by decide) rfl rfl rfl (ty := .array .int) rfl rfl rfl T_206 ⟨by decide, rfl⟩ (cel_putR T_206 rfl rfl) ?_
  refine c_aload_n (t := 207) (cs := 6) (ss := 9356) eX8_init_53 rfl ?_
  refine c_iconst (t := 207) (cs := 6) (ss := 9356) (v := 5) eX8_init_54 (by decide +kernel) ?_
  refine c_newa (t := 207) (cs := 6) (ss := 9356) (k := 107) (N := 5) eX8_init_55 rfl (by decide) (by decide) (by decide) (by decide) (by decide) T_207 (fun ad7 hd7 => ?_)
  rw [← hd7 100 (by decide +kernel)]
  refine c_putF (t := 208) (cs := 7) (ss := 9361) (k := 100) (ci := 7) (i := 7) eX8_init_57 rfl (by decide +kernel) rfl (by decide) iX8 tyX8 tyX8_ok nmX8 fl_X8_28 (by decide) rfl rfl rfl (ty := .array .int) rfl rfl rfl T_208 ⟨by decide, rfl⟩ (cel_putR T_208 rfl rfl) ?_
  refine c_aload_n (t := 209) (cs := 7) (ss := 9361) eX8_init_60 rfl ?_
  refine c_iconst (t := 209) (cs := 7) (ss := 9361) (v := 5) eX8_init_61 (by decide +kernel) ?_
  refine c_newa (t := 209) (cs := 7) (ss := 9361) (k := 108) (N := 5) eX8_init_62 rfl (by decide) (by decide) (by decide) (by decide) (by decide) T_209 (fun ad8 hd8 => ?_)
  rw [← hd8 100 (by decide +kernel)]
  refine c_putF (t := 210) (cs := 8) (ss := 9366) (k := 100) (ci := 7) (i := 8) eX8_init_64 rfl (by decide +kernel) rfl (by decide) iX8 tyX8 tyX8_ok nmX8 fl_X8_31 (by decide) rfl rfl rfl (ty := .array .int) rfl rfl rfl T_210 ⟨by decide, rfl⟩ (cel_putR T_210 rfl rfl) ?_
  refine c_aload_n (t := 211) (cs := 8) (ss := 9366) eX8_init_67 rfl ?_
  refine c_iconst (t := 211) (cs := 8) (ss := 9366) (v := 5) eX8_init_68 (by decide +kernel) ?_
  refine c_newa (t := 211) (cs := 8) (ss := 9366) (k := 109) (N := 5) eX8_init_69 rfl (by decide) (by decide) (by decide) (by decide) (by decide) T_211 (fun ad9 hd9 => ?_)
  rw [← hd9 100 (by decide +kernel)]
  refine c_putF (t := 212) (cs := 9) (ss := 9371) (k := 100) (ci := 7) (i := 9) eX8_init_71 rfl (by decide +kernel) rfl (by decide) iX8 tyX8 tyX8_ok nmX8 fl_X8_34 (by decide) rfl rfl rfl (ty := .array .int) rfl rfl rfl T_212 ⟨by decide, rfl⟩ (cel_putR T_212 rfl rfl) ?_
  refine c_aload_n (t := 213) (cs := 9) (ss := 9371) eX8_init_74 rfl ?_
  refine c_iconst (t := 213) (cs := 9) (ss := 9371) (v := 5) eX8_init_75 (by decide +kernel) ?_
  refine c_newa (t := 213) (cs := 9) (ss := 9371) (k := 110) (N := 5) eX8_init_76 rfl (by decide) (by decide) (by decide) (by decide) (by decide) T_213 (fun ad10 hd10 => ?_)
  rw [← hd10 100 (by decide +kernel)]
  refine c_putF (t := 214) (cs := 10) (ss := 9376) (k := 100) (ci := 7) (i := 10) eX8_init_78 rfl (by decide +kernel) rfl (by decide) iX8 tyX8 tyX8_ok nmX8 fl_X8_37 (by decide) rfl rfl rfl (ty := .array .int) rfl rfl rfl T_214 ⟨by decide, rfl⟩ (cel_putR T_214 rfl rfl) ?_
  refine c_aload_n (t := 215) (cs := 10) (ss := 9376) eX8_init_81 rfl ?_
  refine c_bipush (t := 215) (cs := 10) (ss := 9376) (v := 120) eX8_init_82 (by decide +kernel) ?_
  refine c_newa (t := 215) (cs := 10) (ss := 9376) (k := 111) (N := 120) eX8_init_84 rfl (by decide) (by decide) (by decide) (by decide) (by decide) T_215 (fun ad11 hd11 => ?_)
  rw [← hd11 100 (by decide +kernel)]
  refine c_putF (t := 216) (cs := 11) (ss := 9496) (k := 100) (ci := 7) (i := 11) eX8_init_86 rfl (by decide +kernel) rfl (by decide) iX8 tyX8 tyX8_ok nmX8 fl_X8_40 (by decide) rfl rfl rfl (ty := .array .int) rfl rfl rfl T_216 ⟨by decide, rfl⟩ (cel_putR T_216 rfl rfl) ?_
  refine c_aload_n (t := 217) (cs := 11) (ss := 9496) eX8_init_89 rfl ?_
  refine c_bipush (t := 217) (cs := 11) (ss := 9496) (v := 10) eX8_init_90 (by decide +kernel) ?_
  refine c_newa (t := 217) (cs := 11) (ss := 9496) (k := 112) (N := 10) eX8_init_92 rfl (by decide) (by decide) (by decide) (by decide) (by decide) T_217 (fun ad12 hd12 => ?_)
  rw [← hd12 100 (by decide +kernel)]
  refine c_putF (t := 218) (cs := 12) (ss := 9506) (k := 100) (ci := 7) (i := 12) eX8_init_94 rfl (by decide +kernel) rfl (by decide) iX8 tyX8 tyX8_ok nmX8 fl_X8_43 (by decide) rfl rfl rfl (ty := .array .int) rfl rfl rfl T_218 ⟨by decide, rfl⟩ (cel_putR T_218 rfl rfl) ?_
  refine c_aload_n (t := 219) (cs := 12) (ss := 9506) eX8_init_97 rfl ?_
  refine c_bipush (t := 219) (cs := 12) (ss := 9506) (v := 84) eX8_init_98 (by decide +kernel) ?_
  refine c_newa (t := 219) (cs := 12) (ss := 9506) (k := 113) (N := 84) eX8_init_100 rfl (by decide) (by decide) (by decide) (by decide) (by decide) T_219 (fun ad13 hd13 => ?_)
  rw [← hd13 100 (by decide +kernel)]
  refine c_putF (t := 220) (cs := 13) (ss := 9590) (k := 100) (ci := 7) (i := 13) eX8_init_102 rfl (by decide +kernel) rfl (by decide) iX8 tyX8 tyX8_ok nmX8 fl_X8_46 (by decide) rfl rfl rfl (ty := .array .int) rfl rfl rfl T_220 ⟨by decide, rfl⟩ (cel_putR T_220 rfl rfl) ?_
  refine c_aload_n (t := 221) (cs := 13) (ss := 9590) eX8_init_105 rfl ?_
  refine c_bipush (t := 221) (cs := 13) (ss := 9590) (v := 96) eX8_init_106 (by decide +kernel) ?_
  refine c_newa (t := 221) (cs := 13) (ss := 9590) (k := 114) (N := 96) eX8_init_108 rfl (by decide) (by decide) (by decide) (by decide) (by decide) T_221 (fun ad14 hd14 => ?_)
  rw [← hd14 100 (by decide +kernel)]
  refine c_putF (t := 222) (cs := 14) (ss := 9686) (k := 100) (ci := 7) (i := 14) eX8_init_110 rfl (by decide +kernel) rfl (by decide) iX8 tyX8 tyX8_ok nmX8 fl_X8_49 (by decide) rfl rfl rfl (ty := .array .int) rfl rfl rfl T_222 ⟨by decide, rfl⟩ (cel_putR T_222 rfl rfl) ?_
  refine c_aload_n (t := 223) (cs := 14) (ss := 9686) eX8_init_113 rfl ?_
  refine c_sipush (t := 223) (cs := 14) (ss := 9686) (v := 128) eX8_init_114 (by decide +kernel) ?_
  refine c_newa (t := 223) (cs := 14) (ss := 9686) (k := 115) (N := 128) eX8_init_117 rfl (by decide) (by decide) (by decide) (by decide) (by decide) T_223 (fun ad15 hd15 => ?_)
  rw [← hd15 100 (by decide +kernel)]
  refine c_putF (t := 224) (cs := 15) (ss := 9814) (k := 100) (ci := 7) (i := 26) eX8_init_119 rfl (by decide +kernel) rfl (by decide) iX8 tyX8 tyX8_ok nmX8 fl_X8_52 (by decide) rfl rfl rfl (ty := .array .int) rfl rfl rfl T_224 ⟨by decide, rfl⟩ (cel_putR T_224 rfl rfl) ?_
  refine c_aload_n (t := 225) (cs := 15) (ss := 9814) eX8_init_122 rfl ?_
  refine c_bipush (t := 225) (cs := 15) (ss := 9814) (v := 100) eX8_init_123 (by decide +kernel) ?_
  refine c_newa (t := 225) (cs := 15) (ss := 9814) (k := 116) (N := 100) eX8_init_125 rfl (by decide) (by decide) (by decide) (by decide) (by decide) T_225 (fun ad16 hd16 => ?_)
  rw [← hd16 100 (by decide +kernel)]
  refine c_putF (t := 226) (cs := 16) (ss := 9914) (k := 100) (ci := 7) (i := 27) eX8_init_127 rfl (by decide +kernel) rfl (by decide) iX8 tyX8 tyX8_ok nmX8 fl_X8_55 (by decide) rfl rfl rfl (ty := .array .int) rfl rfl rfl T_226 ⟨by decide, rfl⟩ (cel_putR T_226 rfl rfl) ?_
  refine c_aload_n (t := 227) (cs := 16) (ss := 9914) eX8_init_130 rfl ?_
  refine c_bipush (t := 227) (cs := 16) (ss := 9914) (v := 24) eX8_init_131 (by decide +kernel) ?_
  refine c_newa (t := 227) (cs := 16) (ss := 9914) (k := 117) (N := 24) eX8_init_133 rfl (by decide) (by decide) (by decide) (by decide) (by decide) T_227 (fun ad17 hd17 => ?_)
  rw [← hd17 100 (by decide +kernel)]
  refine c_putF (t := 228) (cs := 17) (ss := 9938) (k := 100) (ci := 7) (i := 28) eX8_init_135 rfl (by decide +kernel) rfl (by decide) iX8 tyX8 tyX8_ok nmX8 fl_X8_58 (by decide) rfl rfl rfl (ty := .array .int) rfl rfl rfl T_228 ⟨by decide, rfl⟩ (cel_putR T_228 rfl rfl) ?_
  refine c_aload_n (t := 229) (cs := 17) (ss := 9938) eX8_init_138 rfl ?_
  refine c_bipush (t := 229) (cs := 17) (ss := 9938) (v := 60) eX8_init_139 (by decide +kernel) ?_
  refine c_newa (t := 229) (cs := 17) (ss := 9938) (k := 118) (N := 60) eX8_init_141 rfl (by decide) (by decide) (by decide) (by decide) (by decide) T_229 (fun ad18 hd18 => ?_)
  rw [← hd18 100 (by decide +kernel)]
  refine c_putF (t := 230) (cs := 18) (ss := 9998) (k := 100) (ci := 7) (i := 29) eX8_init_143 rfl (by decide +kernel) rfl (by decide) iX8 tyX8 tyX8_ok nmX8 fl_X8_61 (by decide) rfl rfl rfl (ty := .array .int) rfl rfl rfl T_230 ⟨by decide, rfl⟩ (cel_putR T_230 rfl rfl) ?_
  refine c_aload_n (t := 231) (cs := 18) (ss := 9998) eX8_init_146 rfl ?_
  refine c_bipush (t := 231) (cs := 18) (ss := 9998) (v := 60) eX8_init_147 (by decide +kernel) ?_
  refine c_newa (t := 231) (cs := 18) (ss := 9998) (k := 119) (N := 60) eX8_init_149 rfl (by decide) (by decide) (by decide) (by decide) (by decide) T_231 (fun ad19 hd19 => ?_)
  rw [← hd19 100 (by decide +kernel)]
  refine c_putF (t := 232) (cs := 19) (ss := 10058) (k := 100) (ci := 7) (i := 31) eX8_init_151 rfl (by decide +kernel) rfl (by decide) iX8 tyX8 tyX8_ok nmX8 fl_X8_64 (by decide) rfl rfl rfl (ty := .array .int) rfl rfl rfl T_232 ⟨by decide, rfl⟩ (cel_putR T_232 rfl rfl) ?_
  refine c_aload_n (t := 233) (cs := 19) (ss := 10058) eX8_init_154 rfl ?_
  refine c_get (t := 233) (cs := 19) (ss := 10058) (k := 100) (ci := 7) (i := 0) (j := 101) eX8_init_155 rfl (by decide +kernel) rfl (by decide) iX8 fl_X8_7 rfl (by decide +kernel) ?_
  refine c_bipush (t := 233) (cs := 19) (ss := 10058) (v := 9) eX8_init_158 (by decide +kernel) ?_
  refine c_iconst (t := 233) (cs := 19) (ss := 10058) (v := 1) eX8_init_160 (by decide +kernel) ?_
  refine c_iast (t := 233) (cs := 19) (ss := 10058) (k := 101) eX8_init_161 rfl (by decide +kernel) (by unfold vp_in; decide) T_233 ?_
  refine c_aload_n (t := 234) (cs := 19) (ss := 10058) eX8_init_162 rfl ?_
  refine c_get (t := 234) (cs := 19) (ss := 10058) (k := 100) (ci := 7) (i := 0) (j := 101) eX8_init_163 rfl (by decide +kernel) rfl (by decide) iX8 fl_X8_7 rfl (by decide +kernel) ?_
  refine c_iconst (t := 234) (cs := 19) (ss := 10058) (v := 4) eX8_init_166 (by decide +kernel) ?_
  refine c_bipush (t := 234) (cs := 19) (ss := 10058) (v := 60) eX8_init_167 (by decide +kernel) ?_
  refine c_iast (t := 234) (cs := 19) (ss := 10058) (k := 101) eX8_init_169 rfl (by decide +kernel) (by unfold vp_in; decide) T_234 ?_
  refine c_aload_n (t := 235) (cs := 19) (ss := 10058) eX8_init_170 rfl ?_
  refine c_get (t := 235) (cs := 19) (ss := 10058) (k := 100) (ci := 7) (i := 0) (j := 101) eX8_init_171 rfl (by decide +kernel) rfl (by decide) iX8 fl_X8_7 rfl (by decide +kernel) ?_
  refine c_iconst (t := 235) (cs := 19) (ss := 10058) (v := 5) eX8_init_174 (by decide +kernel) ?_
  refine c_bipush (t := 235) (cs := 19) (ss := 10058) (v := 10) eX8_init_175 (by decide +kernel) ?_
  refine c_iast (t := 235) (cs := 19) (ss := 10058) (k := 101) eX8_init_177 rfl (by decide +kernel) (by unfold vp_in; decide) T_235 ?_
  refine c_iconst (t := 236) (cs := 19) (ss := 10058) (v := 0) eX8_init_178 (by decide +kernel) ?_
  refine c_istore_n (t := 236) (cs := 19) (ss := 10058) (vs' := [some (.ref (ad19 100)), some (.int 0)]) eX8_init_179 rfl (Nat.le_of_ble_eq_true rfl) rfl ?_
  refine c_iload_n (t := 236) (cs := 19) (ss := 10058) eX8_init_180 rfl ?_
  refine c_iconst (t := 236) (cs := 19) (ss := 10058) (v := 4) eX8_init_181 (by decide +kernel) ?_
  refine c_icmp_ge (t := 236) (cs := 19) (ss := 10058) (tgt := 198) eX8_init_182 (by decide) (fun h => absurd h (by decide)) (fun _ => ?_)
  refine c_aload_n (t := 236) (cs := 19) (ss := 10058) eX8_init_185 rfl ?_
  refine c_get (t := 236) (cs := 19) (ss := 10058) (k := 100) (ci := 7) (i := 4) (j := 104) eX8_init_186 rfl (by decide +kernel) rfl (by decide) iX8 fl_X8_19 rfl (by decide +kernel) ?_
  refine c_iload_n (t := 236) (cs := 19) (ss := 10058) eX8_init_189 rfl ?_
  refine c_iconst (t := 236) (cs := 19) (ss := 10058) (v := (-1)) eX8_init_190 (by decide +kernel) ?_
  refine c_iast (t := 236) (cs := 19) (ss := 10058) (k := 104) eX8_init_191 rfl (by decide +kernel) (by unfold vp_in; decide) T_236 ?_
  refine c_iinc (t := 237) (cs := 19) (ss := 10058) (x := 0) (v := 1) (vs' := [some (.ref (ad19 100)), some (.int 1)]) eX8_init_192 rfl rfl rfl rfl ?_
  refine c_goto (t := 237) (cs := 19) (ss := 10058) (tgt := 180) eX8_init_195 (by decide) ?_
  refine c_iload_n (t := 237) (cs := 19) (ss := 10058) eX8_init_180 rfl ?_
  refine c_iconst (t := 237) (cs := 19) (ss := 10058) (v := 4) eX8_init_181 (by decide +kernel) ?_
  refine c_icmp_ge (t := 237) (cs := 19) (ss := 10058) (tgt := 198) eX8_init_182 (by decide) (fun h => absurd h (by decide)) (fun _ => ?_)
  refine c_aload_n (t := 237) (cs := 19) (ss := 10058) eX8_init_185 rfl ?_
  refine c_get (t := 237) (cs := 19) (ss := 10058) (k := 100) (ci := 7) (i := 4) (j := 104) eX8_init_186 rfl (by decide +kernel) rfl (by decide) iX8 fl_X8_19 rfl (by decide +kernel) ?_
  refine c_iload_n (t := 237) (cs := 19) (ss := 10058) eX8_init_189 rfl ?_
  refine c_iconst (t := 237) (cs := 19) (ss := 10058) (v := (-1)) eX8_init_190 (by decide +kernel) ?_
  refine c_iast (t := 237) (cs := 19) (ss := 10058) (k := 104) eX8_init_191 rfl (by decide +kernel) (by unfold vp_in; decide) T_237 ?_
  refine c_iinc (t := 238) (cs := 19) (ss := 10058) (x := 1) (v := 1) (vs' := [some (.ref (ad19 100)), some (.int 2)]) eX8_init_192 rfl rfl rfl rfl ?_
  refine c_goto (t := 238) (cs := 19) (ss := 10058) (tgt := 180) eX8_init_195 (by decide) ?_
  refine c_iload_n (t := 238) (cs := 19) (ss := 10058) eX8_init_180 rfl ?_
  refine c_iconst (t := 238) (cs := 19) (ss := 10058) (v := 4) eX8_init_181 (by decide +kernel) ?_
  refine c_icmp_ge (t := 238) (cs := 19) (ss := 10058) (tgt := 198) eX8_init_182 (by decide) (fun h => absurd h (by decide)) (fun _ => ?_)
  refine c_aload_n (t := 238) (cs := 19) (ss := 10058) eX8_init_185 rfl ?_
  refine c_get (t := 238) (cs := 19) (ss := 10058) (k := 100) (ci := 7) (i := 4) (j := 104) eX8_init_186 rfl (by decide +kernel) rfl (by decide) iX8 fl_X8_19 rfl (by decide +kernel) ?_
  refine c_iload_n (t := 238) (cs := 19) (ss := 10058) eX8_init_189 rfl ?_
  refine c_iconst (t := 238) (cs := 19) (ss := 10058) (v := (-1)) eX8_init_190 (by decide +kernel) ?_
  refine c_iast (t := 238) (cs := 19) (ss := 10058) (k := 104) eX8_init_191 rfl (by decide +kernel) (by unfold vp_in; decide) T_238 ?_
  refine c_iinc (t := 239) (cs := 19) (ss := 10058) (x := 2) (v := 1) (vs' := [some (.ref (ad19 100)), some (.int 3)]) eX8_init_192 rfl rfl rfl rfl ?_
  refine c_goto (t := 239) (cs := 19) (ss := 10058) (tgt := 180) eX8_init_195 (by decide) ?_
  refine c_iload_n (t := 239) (cs := 19) (ss := 10058) eX8_init_180 rfl ?_
  refine c_iconst (t := 239) (cs := 19) (ss := 10058) (v := 4) eX8_init_181 (by decide +kernel) ?_
  refine c_icmp_ge (t := 239) (cs := 19) (ss := 10058) (tgt := 198) eX8_init_182 (by decide) (fun h => absurd h (by decide)) (fun _ => ?_)
  refine c_aload_n (t := 239) (cs := 19) (ss := 10058) eX8_init_185 rfl ?_
  refine c_get (t := 239) (cs := 19) (ss := 10058) (k := 100) (ci := 7) (i := 4) (j := 104) eX8_init_186 rfl (by decide +kernel) rfl (by decide) iX8 fl_X8_19 rfl (by decide +kernel) ?_
  refine c_iload_n (t := 239) (cs := 19) (ss := 10058) eX8_init_189 rfl ?_
  refine c_iconst (t := 239) (cs := 19) (ss := 10058) (v := (-1)) eX8_init_190 (by decide +kernel) ?_
  refine c_iast (t := 239) (cs := 19) (ss := 10058) (k := 104) eX8_init_191 rfl (by decide +kernel) (by unfold vp_in; decide) T_239 ?_
  refine c_iinc (t := 240) (cs := 19) (ss := 10058) (x := 3) (v := 1) (vs' := [some (.ref (ad19 100)), some (.int 4)]) eX8_init_192 rfl rfl rfl rfl ?_
  refine c_goto (t := 240) (cs := 19) (ss := 10058) (tgt := 180) eX8_init_195 (by decide) ?_
  refine c_iload_n (t := 240) (cs := 19) (ss := 10058) eX8_init_180 rfl ?_
  refine c_iconst (t := 240) (cs := 19) (ss := 10058) (v := 4) eX8_init_181 (by decide +kernel) ?_
  refine c_icmp_ge (t := 240) (cs := 19) (ss := 10058) (tgt := 198) eX8_init_182 (by decide) (fun _ => ?_) (fun h => absurd (by decide) h)
  exact c_ret (t := 240) (cs := 19) (ss := 10058) (st := []) eX8_init_198 rfl rfl rfl rfl
