-- the reference's reading: its parts
def MP (t : Nat → Int32) (n A pa no : Nat) (M : Mem) (σ : PSt) : Prop := M 100 15 = nI n ∧ M 114 = t ∧ LM M t σ.1 ∧ M 100 21 = nI pa ∧ M 100 22 = nI no ∧ M 100 23 = nI σ.2.1 ∧ M 100 24 = nI A ∧ (∀ i, i < σ.2.1 → M 101 (A + 2 * i) = σ.2.2.1 i ∧ M 101 (A + 2 * i + 1) = σ.2.2.2.1 i) ∧ M 100 25 = nI σ.2.2.2.2
def FM (A : Nat) (M M' : Mem) : Prop := Ag [100, 101] M M' ∧ (∀ j, ¬ (16 ≤ j ∧ j ≤ 25) → M' 100 j = M 100 j) ∧ ∀ j, ¬ (A ≤ j ∧ j < A + 192) → M' 101 j = M 101 j
theorem FM.rf (A : Nat) (M : Mem) : FM A M M := ⟨Ag.rf _ _, fun _ _ => rfl, fun _ _ => rfl⟩
theorem FM.tr {A : Nat} {M M1 M2 : Mem} (h : FM A M M1) (h2 : FM A M1 M2) : FM A M M2 := ⟨h.1.tr h2.1, fun j hj => (h2.2.1 j hj).trans (h.2.1 j hj), fun j hj => (h2.2.2 j hj).trans (h.2.2 j hj)⟩
theorem FM.f {A : Nat} {M M1 : Mem} (h : FM A M M1) {j : Nat} (hj : 16 ≤ j ∧ j ≤ 25) (v : Int32) : FM A M (um M1 100 j v) := ⟨h.1.ua (by decide) _, fun i hi => by rw [um_s, pk_un (by omega)]; exact h.2.1 i hi, fun i hi => by rw [um_n _ _ _ (by decide)]; exact h.2.2 i hi⟩
theorem FM.s {A : Nat} {M M1 : Mem} (h : FM A M M1) {j : Nat} (hj : A ≤ j ∧ j < A + 192) (v : Int32) : FM A M (um M1 101 j v) := ⟨h.1.ua (by decide) _, fun i hi => by rw [um_n _ _ _ (by decide)]; exact h.2.1 i hi, fun i hi => by rw [um_s, pk_un (fun e => hi (by rw [e]; exact hj))]; exact h.2.2 i hi⟩
theorem LM.f {t : Nat → Int32} {M : Mem} {q : Tk} (h : LM M t q) {j : Nat} (hj : 21 ≤ j) (v : Int32) : LM (um M 100 j v) t q := by
  obtain ⟨a, b, c, d, e, f⟩ := h
  refine ⟨?_, ?_, ?_, fun z => ?_, fun z => ?_, fun z => ?_⟩
  · rw [um_s, pk_un (by omega)]; exact a
  · rw [um_s, pk_un (by omega)]; exact b
  · rw [um_s, pk_un (by omega)]; exact c
  · rw [um_s, pk_un (by omega)]; exact d z
  · rw [um_s, pk_un (by omega)]; exact e z
  · rw [um_s, pk_un (by omega)]; exact f z
theorem LM.s {t : Nat → Int32} {M : Mem} {q : Tk} (h : LM M t q) (f : Nat → Int32) : LM (ua M 101 f) t q := by
  unfold LM at h ⊢
  rw [ua_n _ _ (by decide)]
  exact h
section
variable {t : Nat → Int32} {n A pa no : Nat} {M : Mem} {σ : PSt}
theorem MP.p (h : MP t n A pa no M σ) (pa' : Nat) : MP t n A pa' no (um M 100 21 (nI pa')) σ := by
  obtain ⟨a1, a2, a3, a4, a5, a6, a7, a8, a9⟩ := h
  refine ⟨?_, ?_, a3.f (by decide) _, ?_, ?_, ?_, ?_, fun i hi => ?_, ?_⟩
  · rw [um_s, pk_un (by decide)]; exact a1
  · rw [um_n _ _ _ (by decide)]; exact a2
  · rw [um_s, pk_us]
  · rw [um_s, pk_un (by decide)]; exact a5
  · rw [um_s, pk_un (by decide)]; exact a6
  · rw [um_s, pk_un (by decide)]; exact a7
  · rw [um_n _ _ _ (by decide)]; exact a8 i hi
  · rw [um_s, pk_un (by decide)]; exact a9
theorem MP.o (h : MP t n A pa no M σ) (no' : Nat) : MP t n A pa no' (um M 100 22 (nI no')) σ := by
  obtain ⟨a1, a2, a3, a4, a5, a6, a7, a8, a9⟩ := h
  refine ⟨?_, ?_, a3.f (by decide) _, ?_, ?_, ?_, ?_, fun i hi => ?_, ?_⟩
  · rw [um_s, pk_un (by decide)]; exact a1
  · rw [um_n _ _ _ (by decide)]; exact a2
  · rw [um_s, pk_un (by decide)]; exact a4
  · rw [um_s, pk_us]
  · rw [um_s, pk_un (by decide)]; exact a6
  · rw [um_s, pk_un (by decide)]; exact a7
  · rw [um_n _ _ _ (by decide)]; exact a8 i hi
  · rw [um_s, pk_un (by decide)]; exact a9
theorem MP.sd (h : MP t n A pa no M σ) : MP t n A pa no (um M 100 25 (nI (σ.2.2.2.2 + 1))) (sdS σ) := by
  obtain ⟨a1, a2, a3, a4, a5, a6, a7, a8, a9⟩ := h
  refine ⟨?_, ?_, a3.f (by decide) _, ?_, ?_, ?_, ?_, fun i hi => ?_, ?_⟩
  · rw [um_s, pk_un (by decide)]; exact a1
  · rw [um_n _ _ _ (by decide)]; exact a2
  · rw [um_s, pk_un (by decide)]; exact a4
  · rw [um_s, pk_un (by decide)]; exact a5
  · rw [um_s, pk_un (by decide)]; exact a6
  · rw [um_s, pk_un (by decide)]; exact a7
  · rw [um_n _ _ _ (by decide)]; exact a8 i hi
  · rw [um_s, pk_us]; rfl
theorem MP.pt (h : MP t n A pa no M σ) (w v : Int32) : MP t n A pa no (um (um (um M 101 (A + 2 * σ.2.1) w) 101 (A + 2 * σ.2.1 + 1) v) 100 23 (nI (σ.2.1 + 1))) (ptS w v σ) := by
  obtain ⟨a1, a2, a3, a4, a5, a6, a7, a8, a9⟩ := h
  have z : (um (um M 101 (A + 2 * σ.2.1) w) 101 (A + 2 * σ.2.1 + 1) v) 100 = M 100 := by rw [um_n _ _ _ (by decide), um_n _ _ _ (by decide)]
  refine ⟨?_, ?_, ((a3.s _).s _).f (by decide) _, ?_, ?_, ?_, ?_, fun i hi => ?_, ?_⟩
  · rw [um_s, pk_un (by decide), z]; exact a1
  · rw [um_n _ _ _ (by decide), um_n _ _ _ (by decide), um_n _ _ _ (by decide)]; exact a2
  · rw [um_s, pk_un (by decide), z]; exact a4
  · rw [um_s, pk_un (by decide), z]; exact a5
  · rw [um_s, pk_us]; rfl
  · rw [um_s, pk_un (by decide), z]; exact a7
  · rw [um_n _ _ _ (by decide), um_s, um_s]
    show upd (upd (M 101) (A + 2 * σ.2.1) w) (A + 2 * σ.2.1 + 1) v (A + 2 * i) = upd σ.2.2.1 σ.2.1 w i ∧ upd (upd (M 101) (A + 2 * σ.2.1) w) (A + 2 * σ.2.1 + 1) v (A + 2 * i + 1) = upd σ.2.2.2.1 σ.2.1 v i
    replace hi : i < σ.2.1 + 1 := hi
    by_cases e : i = σ.2.1
    · rw [e, pk_un (by omega), pk_us, pk_us, pk_us, pk_us]; exact ⟨rfl, rfl⟩
    · refine ⟨?_, ?_⟩
      · rw [pk_un (by omega), pk_un (by omega), pk_un e]; exact (a8 i (by omega)).1
      · rw [pk_un (by omega), pk_un (by omega), pk_un e]; exact (a8 i (by omega)).2
  · rw [um_s, pk_un (by decide), z]; exact a9
theorem FM.pt {M0 : Mem} (h : FM A M0 M) (hm : σ.2.1 < 96) (w v : Int32) : FM A M0 (um (um (um M 101 (A + 2 * σ.2.1) w) 101 (A + 2 * σ.2.1 + 1) v) 100 23 (nI (σ.2.1 + 1))) := ((h.s (by omega) _).s (by omega) _).f (by decide) _
theorem put_blk {w v : Int32} {K : Mem → Prop} (h : MP t n A pa no M σ) (hm : σ.2.1 < 96) (hA : A ≤ 2884) (hK : K (um (um (um M 101 (A + 2 * σ.2.1) w) 101 (A + 2 * σ.2.1 + 1) v) 100 23 (nI (σ.2.1 + 1)))) : vp_in ((M 100 24) + (2 * (M 100 23))) 3084 ∧ vp_in ((((um M 101 (ix ((M 100 24) + (2 * (M 100 23)))) w) 100 24) + (2 * ((um M 101 (ix ((M 100 24) + (2 * (M 100 23)))) w) 100 23))) + 1) 3084 ∧ ∀ M4 : Mem, M4 = um (um M 101 (ix ((M 100 24) + (2 * (M 100 23)))) w) 101 (ix ((((um M 101 (ix ((M 100 24) + (2 * (M 100 23)))) w) 100 24) + (2 * ((um M 101 (ix ((M 100 24) + (2 * (M 100 23)))) w) 100 23))) + 1)) v → K (um M4 100 23 ((M4 100 23) + 1)) := by
  obtain ⟨a1, a2, a3, a4, a5, a6, a7, a8, a9⟩ := h
  rw [um_n _ _ _ (by decide), a6, a7, t2, nI_add, p1, ix_nI (by omega), ix_nI (by omega)]
  refine ⟨vpn (by omega) (by decide), vpn (by omega) (by decide), fun M4 e4 => ?_⟩
  have z : M4 100 23 = nI σ.2.1 := by rw [e4, um_n _ _ _ (by decide), um_n _ _ _ (by decide)]; exact a6
  rw [z, p1, e4]
  exact hK
def PM (t : Nat → Int32) (n A pa no : Nat) (M : Mem) (r : Bool × PSt) (R : Option Value → Mem → Prop) : Prop := ∀ M', FM A M M' → (r.1 = true → MP t n A pa no M' r.2) → (¬ r.1 = true → M' 100 16 = nI r.2.1.1) → R (some (.int (if r.1 = true then 1 else 0))) M'
theorem PM.tr {M1 : Mem} {r : Bool × PSt} {R : Option Value → Mem → Prop} (h : PM t n A pa no M r R) (hA : FM A M M1) : PM t n A pa no M1 r R := fun M' hA' h1 h2 => h M' (hA.tr hA') h1 h2
theorem PM.ok {M1 : Mem} {R : Option Value → Mem → Prop} (h : PM t n A pa no M (true, σ) R) (hA : FM A M M1) (hX : MP t n A pa no M1 σ) : R (some (.int 1)) M1 := h M1 hA (fun _ => hX) (fun z => absurd rfl z)
theorem PM.fl {M1 : Mem} {R : Option Value → Mem → Prop} (h : PM t n A pa no M (false, σ) R) (hA : FM A M M1) (h6 : M1 100 16 = nI σ.1.1) : R (some (.int 0)) M1 := h M1 hA (fun z => by cases z) (fun _ => h6)
theorem MP.k (h : MP t n A pa no M σ) (hQ : QI t n σ.1) : (M 100 18 = 0 ↔ σ.1.2.2 = 0) ∧ (M 100 18 = 1 ↔ σ.1.2.2 = 1) ∧ (M 100 18 = 2 ↔ σ.1.2.2 = 2) ∧ (M 100 18 = 3 ↔ σ.1.2.2 = 3) := by
  have h4 := hQ.2.2.1
  have a : ∀ c, c < 5 → (nI σ.1.2.2 = nI c ↔ σ.1.2.2 = c) := fun c hc => nI_eq (by omega) (by omega)
  rw [h.2.2.1.2.2.1]
  exact ⟨a 0 (by decide), a 1 (by decide), a 2 (by decide), a 3 (by decide)⟩
end
section
variable {l : Launch} {G : GT} {D n A pa no : Nat} {M : Mem} {R : Option Value → Mem → Prop} {t : Nat → Int32} {key : Int32} {σ : PSt}
theorem sX8_nextP (hD : 4 ≤ D) (hn : n ≤ 96) (hX : MP t n A pa no M σ) (hQ : QI t n σ.1) (hR : ∀ M', FM A M M' → MP t n A pa no M' (avS t n σ) → R none M') : Tr l G D mX8_nextToken [.ref (G.1 100)] M R := by
  have hk := hX.k hQ
  obtain ⟨a1, a2, a3, a4, a5, a6, a7, a8, a9⟩ := hX
  have hR' : ∀ M', Ag [100] M M' → (∀ j, ¬ (16 ≤ j ∧ j ≤ 20) → M' 100 j = M 100 j) → LM M' (M 114) (nxS (M 114) n σ.1) → R none M' := fun M' hA hf hl => by
    rw [a2] at hl
    have e101 : M' 101 = M 101 := hA 101 (by decide)
    refine hR M' ⟨hA.sub (by decide), fun j hj => hf j (by omega), fun j _ => by rw [e101]⟩ ⟨(hf 15 (by decide)).trans a1, (hA 114 (by decide)).trans a2, hl, (hf 21 (by decide)).trans a4, (hf 22 (by decide)).trans a5, (hf 23 (by decide)).trans a6, (hf 24 (by decide)).trans a7, fun i hi => by rw [e101]; exact a8 i hi, (hf 25 (by decide)).trans a9⟩
  refine sX8_nextToken (q := σ.1) hD hn a1 a3.2.1 hQ.2.1 ?_ (fun z => ?_) hR'
  · rw [hk.2.1, hk.2.2.1]
  · have := hQ.2.2.2.1 (by omega)
    omega
theorem sX8_isName {c : Int32} (hD : 4 ≤ D) (hkey : key = 0 ∨ key = 1 ∨ key = 2) (hR : R (some (.int (if nmB key c = true then 1 else 0))) M) : Tr l G D mX8_isName [.int key, .int c] M R := by
  obtain ⟨d, rfl⟩ := dE hD
  unfold nmB at hR
  refine tX8_isName ?_
  rcases hkey with rfl | rfl | rfl
  · refine ⟨fun _ => ⟨fun h => ?_, fun h => ⟨fun h2 => ?_, fun h2 => ⟨fun h3 => ?_, fun h3 => ?_⟩⟩⟩, fun h => absurd h (by decide), fun h => absurd rfl h⟩
    · simpa [h] using hR
    · simpa [h, h2] using hR
    · simpa [h, h2, h3] using hR
    · simpa [h, h2, h3] using hR
  · refine ⟨fun h => absurd h (by decide), fun _ => ⟨fun h => ?_, fun h => ⟨fun h2 => ?_, fun h2 => ?_⟩⟩, fun _ h => absurd rfl h⟩
    · simpa [h] using hR
    · simpa [h, h2] using hR
    · simpa [h, h2] using hR
  · refine ⟨fun h => absurd h (by decide), fun h => absurd h (by decide), fun _ _ => ⟨fun h => ?_, fun h => ⟨fun h2 => ?_, fun h2 => ?_⟩⟩⟩
    · simpa [h] using hR
    · simpa [h, h2] using hR
    · simpa [h, h2] using hR
end
