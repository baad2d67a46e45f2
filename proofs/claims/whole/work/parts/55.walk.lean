-- who gets where: the relation behind journey, reach, company
def Ed (s : Nat → Int32) (x : Int32) (q p : Nat) : Prop := ∃ k, k < np s ∧ bt x k = true ∧ ∃ w, w < nw s ∧ sd s w = 1 ∧ bt (rdS s k (nI q)) w = true ∧ ((fr s w = nI q ∧ tt s w = nI p) ∨ (tt s w = nI q ∧ fr s w = nI p))
def Rc (s : Nat → Int32) (x : Int32) (f : Nat) : Nat → Nat → Prop
  | 0, p => p = f
  | t + 1, p => Rc s x f t p ∨ ∃ q, q < 10 ∧ Rc s x f t q ∧ Ed s x q p
def Fs (s : Nat → Int32) (x : Int32) (f : Nat) (t p : Nat) : Prop := Rc s x f t p ∧ ∀ i, i < t → ¬ Rc s x f i p
theorem rc_mono {s : Nat → Int32} {x : Int32} {f p : Nat} {t u : Nat} (h : t ≤ u) (g : Rc s x f t p) : Rc s x f u p := by
  induction u with
  | zero => rw [show t = 0 by omega] at g; exact g
  | succ u ih =>
    by_cases e : t = u + 1
    · rw [e] at g; exact g
    · exact Or.inl (ih (by omega))
theorem fs_ex {s : Nat → Int32} {x : Int32} {f p : Nat} : ∀ t, Rc s x f t p → ∃ i, i ≤ t ∧ Fs s x f i p
  | 0, h => ⟨0, Nat.le_refl _, h, fun i hi => absurd hi (Nat.not_lt_zero i)⟩
  | t + 1, h => by
    by_cases e : Rc s x f t p
    · obtain ⟨i, hi, g⟩ := fs_ex t e
      exact ⟨i, by omega, g⟩
    · exact ⟨t + 1, Nat.le_refl _, h, fun i hi g => e (rc_mono (by omega) g)⟩
theorem fs_prev {s : Nat → Int32} {x : Int32} {f p : Nat} {t : Nat} (h : Fs s x f (t + 1) p) : ∃ q, q < 10 ∧ Fs s x f t q ∧ Ed s x q p := by
  obtain ⟨h1, h2⟩ := h
  rcases h1 with h1 | ⟨q, hq, g1, g2⟩
  · exact absurd h1 (h2 t (Nat.lt_succ_self t))
  · refine ⟨q, hq, ⟨g1, fun i hi g => h2 (i + 1) (by omega) (Or.inr ⟨q, hq, g, g2⟩)⟩, g2⟩
theorem nd_len : ∀ (n : Nat) (L : List Nat), L.Nodup → (∀ x, x ∈ L → x < n) → L.length ≤ n
  | 0, L, _, h => by
    cases L with
    | nil => exact Nat.le_refl _
    | cons a L => exact absurd (h a (List.mem_cons_self ..)) (Nat.not_lt_zero a)
  | n + 1, L, hn, h => by
    have h1 := nd_len n (L.erase n) (hn.erase n) (fun x hx => by
      have h2 := (hn.mem_erase_iff).mp hx
      have := h x h2.2
      omega)
    have h3 := List.length_erase (a := n) (l := L)
    rw [h3] at h1
    split at h1 <;> omega
theorem fs_list {s : Nat → Int32} {x : Int32} {f : Nat} : ∀ t p, p < 10 → Fs s x f t p → ∃ L : List Nat, L.Nodup ∧ L.length = t + 1 ∧ ∀ y, y ∈ L → y < 10 ∧ ∃ i, i ≤ t ∧ Rc s x f i y
  | 0, p, hp, h => ⟨[p], by simp, rfl, fun y hy => by
      rw [List.mem_singleton] at hy
      rw [hy]
      exact ⟨hp, 0, Nat.le_refl _, h.1⟩⟩
  | t + 1, p, hp, h => by
    obtain ⟨q, hq, g, -⟩ := fs_prev h
    obtain ⟨L, l1, l2, l3⟩ := fs_list t q hq g
    refine ⟨p :: L, List.nodup_cons.mpr ⟨fun hm => ?_, l1⟩, by rw [List.length_cons, l2], fun y hy => ?_⟩
    · obtain ⟨-, i, hi, hr⟩ := l3 p hm
      exact h.2 i (by omega) hr
    · rcases List.mem_cons.mp hy with e | e
      · rw [e]; exact ⟨hp, t + 1, Nat.le_refl _, h.1⟩
      · obtain ⟨a, i, hi, hr⟩ := l3 y e
        exact ⟨a, i, by omega, hr⟩
theorem fs_9 {s : Nat → Int32} {x : Int32} {f t p : Nat} (hp : p < 10) (h : Fs s x f t p) : t ≤ 9 := by
  obtain ⟨L, l1, l2, l3⟩ := fs_list t p hp h
  have := nd_len 10 L l1 (fun y hy => (l3 y hy).1)
  omega
theorem rc_9 {s : Nat → Int32} {x : Int32} {f t p : Nat} (hp : p < 10) (h : Rc s x f t p) : Rc s x f 9 p := by
  obtain ⟨i, -, g⟩ := fs_ex t h
  exact rc_mono (fs_9 hp g) g.1
/-- the answer of a journey -/
def Jn (s : Nat → Int32) (x : Int32) (f p : Nat) (a : Int32) : Prop := (a = -1000000005 ∧ ∀ t, ¬ Rc s x f t p) ∨ ∃ t, t ≤ 9 ∧ a = nI t ∧ Fs s x f t p
theorem jn_uq {s : Nat → Int32} {x : Int32} {f p : Nat} {a c : Int32} (h : Jn s x f p a) (g : Jn s x f p c) : a = c := by
  rcases h with ⟨h1, h2⟩ | ⟨t, h0, h1, h2, h3⟩
  · rcases g with ⟨g1, -⟩ | ⟨t, -, -, g2, -⟩
    · rw [h1, g1]
    · exact absurd g2 (h2 t)
  · rcases g with ⟨-, g2⟩ | ⟨u, g0, g1, g2, g3⟩
    · exact absurd h2 (g2 t)
    · by_cases e : t < u
      · exact absurd h2 (g3 t e)
      · by_cases e2 : u < t
        · exact absurd g2 (h3 u e2)
        · rw [h1, g1, show t = u by omega]
theorem ed_mono {s : Nat → Int32} {x y : Int32} (h : ∀ k, bt x k = true → bt y k = true) {q p : Nat} (g : Ed s x q p) : Ed s y q p := by
  obtain ⟨k, h1, h2, h3⟩ := g
  exact ⟨k, h1, h k h2, h3⟩
theorem rc_more {s : Nat → Int32} {x y : Int32} (h : ∀ k, bt x k = true → bt y k = true) {f : Nat} : ∀ t p, Rc s x f t p → Rc s y f t p
  | 0, _, g => g
  | t + 1, p, g => by
    rcases g with g | ⟨q, hq, g1, g2⟩
    · exact Or.inl (rc_more h t p g)
    · exact Or.inr ⟨q, hq, rc_more h t q g1, ed_mono h g2⟩
