-- the six constant strings: length, charAt, indexOf
section
variable {l : Launch} {G : GT} {d D : Nat} {y : MT} {pc n : Nat} {vs : List (Option Value)} {st : List Value} {M : Mem} {R : Option Value → Mem → Prop}
theorem a_getCS (hd : De y pc (.getstatic 38) 3 n) (hy : y.1.cls = RJ0) (kk : At l G d y n vs (.int 1 :: st) M R) : At l G d y pc vs st M R := by
  obtain ⟨hd, rfl⟩ := hd
  intro p e s m args below meth c hc H locs ls hP hS hl hn
  obtain ⟨hx, hb, hr, hml, hown, hts, hlocks, hK, hJ, hC⟩ := id hc
  rw [hy] at hown
  exact va_gets hx hb hC.2.2.2.2.2.1 hS hown (hts _ (List.mem_cons_of_mem _ fl_J0_38)) (fun _ h9 => h9) hd (kk p e s m args below meth c hc H locs ls hP hS hl hn)
theorem a_getSF (hd : De y pc (.getstatic 1053) 3 n) (hy : y.1.cls = RJ0) (kn : At l G d y n vs (.null :: st) M R) (kk : ∀ t : Nat, At l G d y n vs (.ref t :: st) M R) : At l G d y pc vs st M R := by
  obtain ⟨hd, rfl⟩ := hd
  intro p e s m args below meth c hc H locs ls hP hS hl hn
  obtain ⟨hx, hb, hr, hml, hown, hts, hlocks, hK, hJ, hC⟩ := id hc
  rw [hy] at hown
  rcases hC.2.2.2.2.2.2 with hZ | ⟨t, hZ⟩
  · exact va_gets hx hb hZ hS hown (hts _ (List.mem_cons_of_mem _ fl_J0_1053)) (fun _ h9 => h9) hd (kn p e s m args below meth c hc H locs ls hP hS hl hn)
  · exact va_gets hx hb hZ hS hown (hts _ (List.mem_cons_of_mem _ fl_J0_1053)) (fun _ h9 => h9) hd (kk t p e s m args below meth c hc H locs ls hP hS hl hn)
theorem a_getSV {i : Nat} (hi : i < 6) (hd : De y pc (.getfield 9) 3 n) (hy : y.1.cls = RJ0) (kk : At l G d y n vs (.ref (G.2.2.2.2.2 i) :: st) M R) : At l G d y pc vs (.ref (G.2.2.2.2.1 i) :: st) M R := by
  obtain ⟨hd, rfl⟩ := hd
  intro p e s m args below meth c hc H locs ls hP hS hl hn
  obtain ⟨hx, hb, hr, hml, hown, hts, hlocks, hK, hJ, hC⟩ := id hc
  rw [hy] at hown
  exact vk_getf hx hb (hC.2.2.2.2.1.1 i hi).2.2.1 hS hown (hts _ (List.mem_cons_of_mem _ fl_J0_9)) (fun _ h9 => h9) hd (kk p e s m args below meth c hc H locs ls hP hS hl hn)
theorem a_getSC {i : Nat} (hi : i < 6) (hd : De y pc (.getfield 15) 3 n) (hy : y.1.cls = RJ0) (kk : At l G d y n vs (.int 0 :: st) M R) : At l G d y pc vs (.ref (G.2.2.2.2.1 i) :: st) M R := by
  obtain ⟨hd, rfl⟩ := hd
  intro p e s m args below meth c hc H locs ls hP hS hl hn
  obtain ⟨hx, hb, hr, hml, hown, hts, hlocks, hK, hJ, hC⟩ := id hc
  rw [hy] at hown
  exact vk_getf hx hb (hC.2.2.2.2.1.1 i hi).2.1 hS hown (hts _ (List.mem_cons_of_mem _ fl_J0_15)) (fun _ h9 => h9) hd (kk p e s m args below meth c hc H locs ls hP hS hl hn)
theorem a_alenS {i : Nat} (hi : i < 6) (hd : De y pc .arraylength 1 n) (kk : At l G d y n vs (.int (nI (slen.getD i 0)) :: st) M R) : At l G d y pc vs (.ref (G.2.2.2.2.2 i) :: st) M R := by
  obtain ⟨hd, rfl⟩ := hd
  intro p e s m args below meth c hc H locs ls hP hS hl hn
  obtain ⟨hx, hb, hr, hml, hown, hts, hlocks, hK, hJ, hC⟩ := id hc
  exact va_tlen hx hb (hC.2.2.2.2.1.1 i hi).2.2.2 hS rfl hd (kk p e s m args below meth c hc H locs ls hP hS hl hn)
theorem a_baldS {i k : Nat} (hi : i < 6) (hk : k < slen.getD i 0) (hd : De y pc .baload 1 n) (kk : At l G d y n vs (.int ((sbyt.getD i []).getD k 0) :: st) M R) : At l G d y pc vs (.int (nI k) :: .ref (G.2.2.2.2.2 i) :: st) M R := by
  obtain ⟨hd, rfl⟩ := hd
  intro p e s m args below meth c hc H locs ls hP hS hl hn
  obtain ⟨hx, hb, hr, hml, hown, hts, hlocks, hK, hJ, hC⟩ := id hc
  have h4 : slen.getD i 0 ≤ 4 := by
    have : ∀ i, i < 6 → slen.getD i 0 ≤ 4 := by decide
    exact this i hi
  exact va_tb hx hb (hC.2.2.2.2.1.1 i hi).2.2.2 hS (vpn hk (by omega)) (v := .int ((sbyt.getD i []).getD k 0)) (by rw [show (nI k).toNatClampNeg = k from ix_nI (by omega)]) hd (kk p e s m args below meth c hc H locs ls hP hS hl hn)
theorem a_i2b {x : Int32} (hd : De y pc .i2b 1 n) (kk : At l G d y n vs (.int x.toInt8.toInt32 :: st) M R) : At l G d y pc vs (.int x :: st) M R := by
  obtain ⟨hd, rfl⟩ := hd
  intro p e s m args below meth c hc H locs ls hP hS hl hn
  obtain ⟨hx, hb, hr, hml, hown, hts, hlocks, hK, hJ, hC⟩ := id hc
  exact lv_i2b hx hb hd rfl (kk p e s m args below meth c hc H locs ls hP hS hl hn)
theorem sJ0_coder {i : Nat} (hi : i < 6) (hR : R (some (.int 0)) M) : Tr l G D mJ0_coder_7d493 [.ref (G.2.2.2.2.1 i)] M R := by
  refine Tr.of rfl (Nat.le_of_ble_eq_true rfl) (vs := [some (.ref (G.2.2.2.2.1 i))]) rfl ?_
  refine a_getCS eJ0_coder_7d493_0 rfl ?_
  refine a_if_eq (tgt := 13) eJ0_coder_7d493_3 (by decide) (fun h => absurd h (by decide)) (fun _ => ?_)
  refine a_aload_n eJ0_coder_7d493_6 rfl ?_
  refine a_getSC hi eJ0_coder_7d493_7 rfl ?_
  refine a_goto (tgt := 14) eJ0_coder_7d493_10 (by decide) ?_
  exact a_iret eJ0_coder_7d493_14 rfl rfl hR
theorem sJ0_isLatin1 {i : Nat} (hi : i < 6) (hR : R (some (.int 1)) M) : Tr l G D mJ0_isLatin1_aae02 [.ref (G.2.2.2.2.1 i)] M R := by
  refine Tr.of rfl (Nat.le_of_ble_eq_true rfl) (vs := [some (.ref (G.2.2.2.2.1 i))]) rfl ?_
  refine a_getCS eJ0_isLatin1_aae02_0 rfl ?_
  refine a_if_eq (tgt := 17) eJ0_isLatin1_aae02_3 (by decide) (fun h => absurd h (by decide)) (fun _ => ?_)
  refine a_aload_n eJ0_isLatin1_aae02_6 rfl ?_
  refine a_getSC hi eJ0_isLatin1_aae02_7 rfl ?_
  refine a_if_ne (tgt := 17) eJ0_isLatin1_aae02_10 (by decide) (fun h => absurd rfl h) (fun _ => ?_)
  refine a_iconst (v := 1) eJ0_isLatin1_aae02_13 (by decide) ?_
  refine a_goto (tgt := 18) eJ0_isLatin1_aae02_14 (by decide) ?_
  exact a_iret eJ0_isLatin1_aae02_18 rfl rfl hR
theorem sJ0_length {i : Nat} (hD : 1 ≤ D) (hi : i < 6) (hR : R (some (.int (nI (slen.getD i 0)))) M) : Tr l G D mJ0_length_8abf5 [.ref (G.2.2.2.2.1 i)] M R := by
  obtain ⟨d, rfl⟩ := dE hD
  refine Tr.of rfl (Nat.le_of_ble_eq_true rfl) (vs := [some (.ref (G.2.2.2.2.1 i))]) rfl ?_
  refine a_aload_n eJ0_length_8abf5_0 rfl ?_
  refine a_getSV hi eJ0_length_8abf5_1 rfl ?_
  refine a_alenS hi eJ0_length_8abf5_4 ?_
  refine a_aload_n eJ0_length_8abf5_5 rfl ?_
  refine qJ0_335 ⟨i, hi, rfl⟩ rfl eJ0_length_8abf5_6 (Nat.le_of_ble_eq_true rfl) (sJ0_coder hi (ret_i ?_))
  refine a_ishr eJ0_length_8abf5_9 ?_
  have e : ∀ i, i < 6 → nI (slen.getD i 0) >>> ((0 : Int32) &&& 31) = nI (slen.getD i 0) := by decide
  rw [e i hi]
  exact a_iret eJ0_length_8abf5_10 rfl rfl hR
theorem sJ3_checkIndex {k n : Nat} {v : Value} (hv : v = .null ∨ ∃ t : Nat, v = .ref t) (hk : k < n) (hn : n < 2 ^ 31) (hR : R (some (.int (nI k))) M) : Tr l G D mJ3_checkIndex_8e157 [.int (nI k), .int (nI n), v] M R := by
  have go : ∀ v : Value, v.category = 1 → Tr l G D mJ3_checkIndex_8e157 [.int (nI k), .int (nI n), v] M R := by
    intro v hc
    refine Tr.of rfl ?_ (vs := [some (.int (nI k)), some (.int (nI n)), some v]) ?_ ?_
    · simp only [va_lo, hc]; exact Nat.le_of_ble_eq_true rfl
    · simp only [loE, va_lo, hc]; rfl
    · refine a_iload_n eJ3_checkIndex_8e157_0 rfl ?_
      refine a_if_lt (tgt := 9) eJ3_checkIndex_8e157_1 (by decide) (fun h => absurd h (Int32.not_lt.mpr (zl k (by omega)))) (fun _ => ?_)
      refine a_iload_n eJ3_checkIndex_8e157_4 rfl ?_
      refine a_iload_n eJ3_checkIndex_8e157_5 rfl ?_
      refine a_icmp_lt (tgt := 16) eJ3_checkIndex_8e157_6 (by decide) (fun _ => ?_) (fun h => absurd ((lt_nI (by omega) hn).mpr hk) h)
      refine a_iload_n eJ3_checkIndex_8e157_16 rfl ?_
      exact a_iret eJ3_checkIndex_8e157_17 rfl rfl hR
  rcases hv with rfl | ⟨t, rfl⟩
  · exact go _ rfl
  · exact go _ rfl
theorem sJ0_checkIndex {k n : Nat} (hD : 1 ≤ D) (hk : k < n) (hn : n < 2 ^ 31) (hR : R none M) : Tr l G D mJ0_checkIndex_df160 [.int (nI k), .int (nI n)] M R := by
  obtain ⟨d, rfl⟩ := dE hD
  refine Tr.of rfl (Nat.le_of_ble_eq_true rfl) (vs := [some (.int (nI k)), some (.int (nI n))]) rfl ?_
  refine a_iload_n eJ0_checkIndex_df160_0 rfl ?_
  refine a_iload_n eJ0_checkIndex_df160_1 rfl ?_
  have back : At l G (d + 1) mJ0_checkIndex_df160 8 [some (.int (nI k)), some (.int (nI n))] [.int (nI k)] M R := a_pop eJ0_checkIndex_df160_8 rfl (a_vret eJ0_checkIndex_df160_9 rfl hR)
  have call : ∀ v : Value, (v = .null ∨ ∃ t : Nat, v = .ref t) → At l G (d + 1) mJ0_checkIndex_df160 5 [some (.int (nI k)), some (.int (nI n))] [v, .int (nI n), .int (nI k)] M R := fun v hv => a_callS (np := 3) (y' := mJ3_checkIndex_8e157) (st := []) [.int (nI k), .int (nI n), v] eJ0_checkIndex_df160_5 ml_J0_1059 st_J3_checkIndex_8e157 in_J3 cw_J3_checkIndex_8e157 (by decide +kernel) rfl (by decide +kernel) (by decide) rfl (sJ3_checkIndex hv hk hn (ret_i back))
  exact a_getSF eJ0_checkIndex_df160_2 rfl (call _ (Or.inl rfl)) (fun t => call _ (Or.inr ⟨t, rfl⟩))
theorem sJ1_charAt {i k : Nat} (hD : 2 ≤ D) (hi : i < 6) (hk : k < slen.getD i 0) (hR : R (some (.int ((sbyt.getD i []).getD k 0))) M) : Tr l G D mJ1_charAt_3b067 [.ref (G.2.2.2.2.2 i), .int (nI k)] M R := by
  obtain ⟨d, rfl⟩ := dE (show 1 ≤ D by omega)
  have h4 : slen.getD i 0 ≤ 4 := by
    have : ∀ i, i < 6 → slen.getD i 0 ≤ 4 := by decide
    exact this i hi
  have hc : ∀ i, i < 6 → ∀ k, k < slen.getD i 0 → ((((sbyt.getD i []).getD k 0) &&& 255).toUInt32 % 65536).toInt32 = (sbyt.getD i []).getD k 0 ∧ narrow .char (.int ((sbyt.getD i []).getD k 0)) = .int ((sbyt.getD i []).getD k 0) := by decide
  obtain ⟨hc1, hc2⟩ := hc i hi k hk
  refine Tr.of rfl (Nat.le_of_ble_eq_true rfl) (vs := [some (.ref (G.2.2.2.2.2 i)), some (.int (nI k))]) rfl ?_
  refine a_iload_n eJ1_charAt_3b067_0 rfl ?_
  refine a_aload_n eJ1_charAt_3b067_1 rfl ?_
  refine a_alenS hi eJ1_charAt_3b067_2 ?_
  refine qJ1_9 rfl eJ1_charAt_3b067_3 (by decide) (sJ0_checkIndex (by omega) hk (by omega) (ret_v ?_))
  refine a_aload_n eJ1_charAt_3b067_6 rfl ?_
  refine a_iload_n eJ1_charAt_3b067_7 rfl ?_
  refine a_baldS hi hk eJ1_charAt_3b067_8 ?_
  refine a_sipush (v := 255) eJ1_charAt_3b067_9 (by decide) ?_
  refine a_iand eJ1_charAt_3b067_12 ?_
  refine a_i2c eJ1_charAt_3b067_13 ?_
  rw [hc1]
  exact a_iret eJ1_charAt_3b067_14 rfl hc2 hR
theorem sJ0_charAt {i k : Nat} (hD : 3 ≤ D) (hi : i < 6) (hk : k < slen.getD i 0) (hR : R (some (.int ((sbyt.getD i []).getD k 0))) M) : Tr l G D mJ0_charAt_5068e [.ref (G.2.2.2.2.1 i), .int (nI k)] M R := by
  obtain ⟨d, rfl⟩ := dE (show 1 ≤ D by omega)
  have hc : ∀ i, i < 6 → ∀ k, k < slen.getD i 0 → narrow .char (.int ((sbyt.getD i []).getD k 0)) = .int ((sbyt.getD i []).getD k 0) := by decide
  refine Tr.of rfl (Nat.le_of_ble_eq_true rfl) (vs := [some (.ref (G.2.2.2.2.1 i)), some (.int (nI k))]) rfl ?_
  refine a_aload_n eJ0_charAt_5068e_0 rfl ?_
  refine qJ0_492 ⟨i, hi, rfl⟩ rfl eJ0_charAt_5068e_1 (by decide) (sJ0_isLatin1 hi (ret_i ?_))
  refine a_if_eq (tgt := 16) eJ0_charAt_5068e_4 (by decide) (fun h => absurd h (by decide)) (fun _ => ?_)
  refine a_aload_n eJ0_charAt_5068e_7 rfl ?_
  refine a_getSV hi eJ0_charAt_5068e_8 rfl ?_
  refine a_iload_n eJ0_charAt_5068e_11 rfl ?_
  refine qJ0_495 rfl eJ0_charAt_5068e_12 (by decide) (sJ1_charAt (by omega) hi hk (ret_i ?_))
  exact a_iret eJ0_charAt_5068e_15 rfl (hc i hi k hk) hR
def ixL (c : Int32) : List Int32 → Nat → Int32
  | [], _ => -1
  | b :: r, k => if b = c then nI k else ixL c r (k + 1)
theorem sJ1_canEncode {a : Nat} (ha : a < 128) (hR : R (some (.int 1)) M) : Tr l G D mJ1_canEncode_9a6ad [.int (nI a)] M R := by
  refine Tr.of rfl (Nat.le_of_ble_eq_true rfl) (vs := [some (.int (nI a))]) rfl ?_
  refine a_iload_n eJ1_canEncode_9a6ad_0 rfl ?_
  refine a_if_lt (tgt := 15) eJ1_canEncode_9a6ad_1 (by decide) (fun h => absurd h (Int32.not_lt.mpr (zl a (by omega)))) (fun _ => ?_)
  refine a_iload_n eJ1_canEncode_9a6ad_4 rfl ?_
  refine a_sipush (v := 255) eJ1_canEncode_9a6ad_5 (by decide) ?_
  refine a_icmp_gt (tgt := 15) eJ1_canEncode_9a6ad_8 (by decide) (fun h => absurd h ?_) (fun _ => ?_)
  · rw [show (255 : Int32) = nI 255 from rfl, lt_nI (by omega) (by omega)]; omega
  refine a_iconst (v := 1) eJ1_canEncode_9a6ad_11 (by decide) ?_
  refine a_goto (tgt := 16) eJ1_canEncode_9a6ad_12 (by decide) ?_
  exact a_iret eJ1_canEncode_9a6ad_16 rfl rfl hR
theorem sJ1_indexOfChar {i a : Nat} (hi : i < 6) (ha : a < 128) (hR : R (some (.int (ixL (nI a) (sbyt.getD i []) 0))) M) : Tr l G D mJ1_indexOfChar_4cfef [.ref (G.2.2.2.2.2 i), .int (nI a), .int 0, .int (nI (slen.getD i 0))] M R := by
  have hl : ∀ i, i < 6 → slen.getD i 0 ≤ 4 ∧ (sbyt.getD i []).length = slen.getD i 0 := by decide
  obtain ⟨h4, hlen⟩ := hl i hi
  have hb : ∀ a, a < 128 → (nI a).toInt8.toInt32 = nI a := by decide +kernel
  refine Tr.of rfl (Nat.le_of_ble_eq_true rfl) (vs := [some (.ref (G.2.2.2.2.2 i)), some (.int (nI a)), some (.int 0), some (.int (nI (slen.getD i 0))), none, none]) rfl ?_
  refine a_iload_n eJ1_indexOfChar_4cfef_0 rfl ?_
  refine a_i2b eJ1_indexOfChar_4cfef_1 ?_
  rw [hb a ha]
  refine a_istore (vs' := [some (.ref (G.2.2.2.2.2 i)), some (.int (nI a)), some (.int 0), some (.int (nI (slen.getD i 0))), some (.int (nI a)), none]) eJ1_indexOfChar_4cfef_2 rfl (Nat.le_of_ble_eq_true rfl) rfl ?_
  refine a_iload_n eJ1_indexOfChar_4cfef_4 rfl ?_
  refine a_istore (vs' := [some (.ref (G.2.2.2.2.2 i)), some (.int (nI a)), some (.int 0), some (.int (nI (slen.getD i 0))), some (.int (nI a)), some (.int 0)]) eJ1_indexOfChar_4cfef_5 rfl (Nat.le_of_ble_eq_true rfl) rfl ?_
  have loop : ∀ k, k ≤ slen.getD i 0 → R (some (.int (ixL (nI a) ((sbyt.getD i []).drop k) k))) M → At l G D mJ1_indexOfChar_4cfef 7 [some (.ref (G.2.2.2.2.2 i)), some (.int (nI a)), some (.int 0), some (.int (nI (slen.getD i 0))), some (.int (nI a)), some (.int (nI k))] [] M R := by
    refine upL (fun k => R (some (.int (ixL (nI a) ((sbyt.getD i []).drop k) k))) M → At l G D mJ1_indexOfChar_4cfef 7 [some (.ref (G.2.2.2.2.2 i)), some (.int (nI a)), some (.int 0), some (.int (nI (slen.getD i 0))), some (.int (nI a)), some (.int (nI k))] [] M R) (slen.getD i 0) ?_ ?_
    · intro hR
      refine a_iload eJ1_indexOfChar_4cfef_7 rfl ?_
      refine a_iload_n eJ1_indexOfChar_4cfef_9 rfl ?_
      refine a_icmp_ge (tgt := 31) eJ1_indexOfChar_4cfef_10 (by decide) (fun _ => ?_) (fun h => absurd (Int32.le_refl _) h)
      refine a_iconst (v := -1) eJ1_indexOfChar_4cfef_31 (by decide) ?_
      rw [List.drop_of_length_le (by omega)] at hR
      exact a_iret eJ1_indexOfChar_4cfef_32 rfl rfl hR
    · intro k hk ih hR
      rw [List.drop_eq_getElem_cons (show k < (sbyt.getD i []).length by omega)] at hR
      have eg : (sbyt.getD i []).getD k 0 = (sbyt.getD i [])[k]'(by omega) := by rw [List.getD_eq_getElem?_getD, List.getElem?_eq_getElem (by omega)]; rfl
      refine a_iload eJ1_indexOfChar_4cfef_7 rfl ?_
      refine a_iload_n eJ1_indexOfChar_4cfef_9 rfl ?_
      refine a_icmp_ge (tgt := 31) eJ1_indexOfChar_4cfef_10 (by decide) (fun h => absurd h (by rw [le_nI (by omega) (by omega)]; omega)) (fun _ => ?_)
      refine a_aload_n eJ1_indexOfChar_4cfef_13 rfl ?_
      refine a_iload eJ1_indexOfChar_4cfef_14 rfl ?_
      refine a_baldS hi hk eJ1_indexOfChar_4cfef_16 ?_
      refine a_iload eJ1_indexOfChar_4cfef_17 rfl ?_
      rw [eg]
      refine a_icmp_ne (tgt := 25) eJ1_indexOfChar_4cfef_19 (by decide) (fun h => ?_) (fun h => ?_)
      · refine a_iinc (v := 1) (vs' := [some (.ref (G.2.2.2.2.2 i)), some (.int (nI a)), some (.int 0), some (.int (nI (slen.getD i 0))), some (.int (nI a)), some (.int (nI k + 1))]) eJ1_indexOfChar_4cfef_25 rfl rfl (by decide) rfl ?_
        refine a_goto (tgt := 7) eJ1_indexOfChar_4cfef_28 (by decide) ?_
        rw [p1]
        refine ih ?_
        rw [ixL, if_neg h] at hR
        exact hR
      · refine a_iload eJ1_indexOfChar_4cfef_22 rfl ?_
        rw [ixL, if_pos h] at hR
        exact a_iret eJ1_indexOfChar_4cfef_24 rfl rfl hR
  exact loop 0 (Nat.zero_le _) hR
theorem sJ1_indexOf {i a : Nat} (hD : 1 ≤ D) (hi : i < 6) (ha : a < 128) (hR : R (some (.int (ixL (nI a) (sbyt.getD i []) 0))) M) : Tr l G D mJ1_indexOf_4cfef [.ref (G.2.2.2.2.2 i), .int (nI a), .int 0, .int (nI (slen.getD i 0))] M R := by
  obtain ⟨d, rfl⟩ := dE hD
  have hl : ∀ i, i < 6 → slen.getD i 0 ≤ 4 ∧ 0 < slen.getD i 0 := by decide
  obtain ⟨h4, h0⟩ := hl i hi
  refine Tr.of rfl (Nat.le_of_ble_eq_true rfl) (vs := [some (.ref (G.2.2.2.2.2 i)), some (.int (nI a)), some (.int 0), some (.int (nI (slen.getD i 0)))]) rfl ?_
  refine a_iload_n eJ1_indexOf_4cfef_0 rfl ?_
  refine qJ1_88 rfl eJ1_indexOf_4cfef_1 (by decide) (sJ1_canEncode ha (ret_i ?_))
  refine a_if_ne (tgt := 9) eJ1_indexOf_4cfef_4 (by decide) (fun _ => ?_) (fun h => absurd h (by decide))
  refine a_iload_n eJ1_indexOf_4cfef_9 rfl ?_
  refine a_iconst (v := 0) eJ1_indexOf_4cfef_10 (by decide) ?_
  refine a_mmax eJ1_indexOf_4cfef_11 ml_J1_92 st_J9_max_7cf53 in_J9 cw_J9_max_7cf53 (by omega) (by decide) ?_
  refine a_istore_n (vs' := [some (.ref (G.2.2.2.2.2 i)), some (.int (nI a)), some (.int 0), some (.int (nI (slen.getD i 0)))]) eJ1_indexOf_4cfef_14 rfl (Nat.le_of_ble_eq_true rfl) rfl ?_
  refine a_iload_n eJ1_indexOf_4cfef_15 rfl ?_
  refine a_aload_n eJ1_indexOf_4cfef_16 rfl ?_
  refine a_alenS hi eJ1_indexOf_4cfef_17 ?_
  refine a_mmin eJ1_indexOf_4cfef_18 ml_J1_38 st_J9_min_7cf53 in_J9 cw_J9_min_7cf53 (by omega) (by decide) ?_
  rw [ite_self]
  refine a_istore_n (vs' := [some (.ref (G.2.2.2.2.2 i)), some (.int (nI a)), some (.int 0), some (.int (nI (slen.getD i 0)))]) eJ1_indexOf_4cfef_21 rfl (Nat.le_of_ble_eq_true rfl) rfl ?_
  refine a_iload_n eJ1_indexOf_4cfef_22 rfl ?_
  refine a_iload_n eJ1_indexOf_4cfef_23 rfl ?_
  refine a_icmp_lt (tgt := 29) eJ1_indexOf_4cfef_24 (by decide) (fun _ => ?_) (fun h => absurd ?_ h)
  · refine a_aload_n eJ1_indexOf_4cfef_29 rfl ?_
    refine a_iload_n eJ1_indexOf_4cfef_30 rfl ?_
    refine a_iload_n eJ1_indexOf_4cfef_31 rfl ?_
    refine a_iload_n eJ1_indexOf_4cfef_32 rfl ?_
    refine qJ1_95 rfl eJ1_indexOf_4cfef_33 (by decide) (sJ1_indexOfChar hi ha (ret_i ?_))
    exact a_iret eJ1_indexOf_4cfef_36 rfl rfl hR
  · rw [show (0 : Int32) = nI 0 from rfl, lt_nI (by omega) (by omega)]; exact h0
theorem sJ0_indexOf {i a : Nat} (hD : 3 ≤ D) (hi : i < 6) (ha : a < 128) (hR : R (some (.int (ixL (nI a) (sbyt.getD i []) 0))) M) : Tr l G D mJ0_indexOf_0f7a4 [.ref (G.2.2.2.2.1 i), .int (nI a)] M R := by
  obtain ⟨d, rfl⟩ := dE (show 2 ≤ D by omega)
  refine Tr.of rfl (Nat.le_of_ble_eq_true rfl) (vs := [some (.ref (G.2.2.2.2.1 i)), some (.int (nI a))]) rfl ?_
  refine a_aload_n eJ0_indexOf_0f7a4_0 rfl ?_
  refine a_iload_n eJ0_indexOf_0f7a4_1 rfl ?_
  refine a_iconst (v := 0) eJ0_indexOf_0f7a4_2 (by decide) ?_
  have inner : Tr l G (d + 1) mJ0_indexOf_7cf53 [.ref (G.2.2.2.2.1 i), .int (nI a), .int 0] M (fun r M' => At l G (d + 1 + 1) mJ0_indexOf_0f7a4 6 [some (.ref (G.2.2.2.2.1 i)), some (.int (nI a))] (r.toList ++ []) M' R) := by
    refine Tr.of rfl (Nat.le_of_ble_eq_true rfl) (vs := [some (.ref (G.2.2.2.2.1 i)), some (.int (nI a)), some (.int 0)]) rfl ?_
    refine a_aload_n eJ0_indexOf_7cf53_0 rfl ?_
    refine qJ0_492 ⟨i, hi, rfl⟩ rfl eJ0_indexOf_7cf53_1 (by decide) (sJ0_isLatin1 hi (ret_i ?_))
    refine a_if_eq (tgt := 23) eJ0_indexOf_7cf53_4 (by decide) (fun h => absurd h (by decide)) (fun _ => ?_)
    refine a_aload_n eJ0_indexOf_7cf53_7 rfl ?_
    refine a_getSV hi eJ0_indexOf_7cf53_8 rfl ?_
    refine a_iload_n eJ0_indexOf_7cf53_11 rfl ?_
    refine a_iload_n eJ0_indexOf_7cf53_12 rfl ?_
    refine a_aload_n eJ0_indexOf_7cf53_13 rfl ?_
    refine qJ0_505 ⟨i, hi, rfl⟩ rfl eJ0_indexOf_7cf53_14 (Nat.le_of_ble_eq_true rfl) (sJ0_length (by omega) hi (ret_i ?_))
    refine qJ0_637 rfl eJ0_indexOf_7cf53_17 (Nat.le_of_ble_eq_true rfl) (sJ1_indexOf (by omega) hi ha (ret_i ?_))
    refine a_goto (tgt := 36) eJ0_indexOf_7cf53_20 (by decide) ?_
    refine a_iret eJ0_indexOf_7cf53_36 rfl rfl ?_
    exact a_iret eJ0_indexOf_0f7a4_6 rfl rfl hR
  exact qJ0_633 ⟨i, hi, rfl⟩ rfl eJ0_indexOf_0f7a4_3 (Nat.le_of_ble_eq_true rfl) inner
end
