-- a sheet becomes another; a sheet taken
section
variable {l : Launch} {G : GT} {D : Nat} {M : Mem} {R : Option Value → Mem → Prop} {b : Nat}
theorem sX3_become {q z : Int32} (hb : IsSh b) (hD : 4 ≤ D) (hR : ∀ M', Ag [b, b + 1] M M' → M' b = upd (upd (M b) 0 q) 1 z → (∀ i, i < 24 → M' (b + 1) i = 0) → R none M') : Tr l G D mX3_become [.ref (G.1 b), .int q, .int z] M R := by
  obtain ⟨d, rfl⟩ := dE hD
  refine tX3_become hb ?_
  have loop : ∀ i, i ≤ 24 → ∀ M', Ag [b, b + 1] M M' → M' b = upd (upd (M b) 0 q) 1 z → (∀ j, j < i → M' (b + 1) j = 0) → At l G (d + 4) mX3_become 12 [some (.ref (G.1 b)), none, none, some (.int (nI i))] [] M' R := by
    refine upL (fun i => ∀ M', Ag [b, b + 1] M M' → M' b = upd (upd (M b) 0 q) 1 z → (∀ j, j < i → M' (b + 1) j = 0) → At l G (d + 4) mX3_become 12 [some (.ref (G.1 b)), none, none, some (.int (nI i))] [] M' R) 24 ?_ ?_
    · intro M' hA e hz
      exact bX3_become_12 hb ⟨fun _ => hR M' hA e hz, fun h => absurd (by decide : (24 : Int32) ≤ nI 24) h⟩
    · intro i hi ih M' hA e hz
      refine bX3_become_12 hb ⟨fun h => absurd h (by rw [show (24 : Int32) = nI 24 from rfl, le_nI (by omega) (by omega)]; omega), fun _ => ⟨vpn hi (by decide), ?_⟩⟩
      rw [p1, ix_nI (by omega)]
      refine ih _ (hA.ua (by simp) _) (by rw [um_n _ _ _ (by omega)]; exact e) (fun j hj => ?_)
      rw [um_s]
      by_cases q : j = i
      · rw [q, pk_us]
      · rw [pk_un q]; exact hz j (by omega)
  exact loop 0 (by omega) _ (((Ag.rf _ M).ua (by simp) _).ua (by simp) _) (by rw [um_s, um_s]) (fun j hj => absurd hj (Nat.not_lt_zero j))
theorem sX3_take {c : Nat} (hb : IsSh b) (hc : IsSh c) (hne : b ≠ c) (hD : 4 ≤ D) (hR : ∀ M', Ag [b, b + 1] M M' → M' b 0 = M c 0 → M' b 1 = M c 1 → (∀ i, i < 24 → M' (b + 1) i = M (c + 1) i) → R none M') : Tr l G D mX3_take [.ref (G.1 b), .ref (G.1 c)] M R := by
  obtain ⟨d, rfl⟩ := dE hD
  have hb' := hb
  have hc' := hc
  unfold IsSh at hb' hc'
  have i0 : ix 0 = 0 := by decide
  have i24' : ix 24 = 24 := by decide
  refine tX3_take hb hc (fun M1 e1 => ?_)
  simp (disch := omega) only [um_n, i0, i24'] at e1
  have hA : Ag [b, b + 1] M M1 := by
    rw [e1]
    exact (((Ag.rf _ M).ua (by simp) _).ua (by simp) _).ua (by simp) _
  refine hR M1 hA ?_ ?_ (fun i hi => ?_)
  · rw [e1]
    simp (disch := omega) only [ua_n, um_s, pk_us, pk_un]
  · rw [e1]
    simp (disch := omega) only [ua_n, um_s, pk_us, pk_un]
  · rw [e1, ua_s, sb_cpy0 hi]
end
