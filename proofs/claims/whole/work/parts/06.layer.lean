-- THE LAYER: the cells of both systems behind their constructors: which cell is what is fixed (shp), the ints in them are a memory
abbrev Mem : Type := Nat → Nat → Int32
def ua (M : Mem) (k : Nat) (f : Nat → Int32) : Mem := fun a => if a = k then f else M a
abbrev um (M : Mem) (k j : Nat) (v : Int32) : Mem := ua M k (upd (M k) j v)
theorem ua_s (M : Mem) (k : Nat) (f : Nat → Int32) : ua M k f k = f := if_pos rfl
theorem ua_n (M : Mem) {k a : Nat} (f : Nat → Int32) (h : a ≠ k) : ua M k f a = M a := if_neg h
/-- addresses of the cells; class numbers; classes of arrays (0 int[], 1 int[][], 2 Sheet[], 3 Slot[]); the table of kinds; String constants -/
abbrev GT : Type := (Nat → Nat) × va_G × (Nat → ClassId) × Nat × (Nat → Nat) × (Nat → Nat)
abbrev clz : List vw_C := [(RX1, TX1, 20), (RX2, TX2, 5), (RX3, TX3, 3), (RX4, TX4, 5), (RX5, TX5, 9), (RX6, TX6, 1), (RX7, TX7, 12), (RX8, TX8, 32)]
def ldf (b : Nat) : List (Option Nat) := [some 1, none, some (b + 1), some (b + 2), some (b + 3), some (b + 4), none, some (b + 5), some (b + 6), some (b + 7), none, none, none, none, none, none, none, none, none, some (b + 8)]
/-- what a cell is: (0, number of its class, its fields: another cell, or an int), (1, n): an int array; (2 + t, n, cells): an array of references -/
def shp (k : Nat) : Nat × Nat × List (Option Nat) :=
  if k = 0 then (0, 6, [some 1, some 21, some 30, some 40, some 50, none, some 60, some 62, some 64, some 65, some 63, none])
  else if k = 1 then (0, 1, [some 2, some 3, some 4, some 5, some 6])
  else if k = 2 then (3, 14, [some 7, some 8, some 9, some 10, some 11, some 12, some 13, some 14, some 15, some 16, some 17, some 18, some 19, some 20])
  else if k < 6 then (1, 14, [])
  else if k < 21 then (1, 96, [])
  else if k = 21 then (0, 4, [some 22, none, some 23, none, none, none, none, none, none])
  else if k < 24 then (1, 96, [])
  else if k = 30 ∨ k = 40 ∨ k = 50 then (0, 0, ldf k)
  else if k = 35 ∨ k = 36 ∨ k = 45 ∨ k = 46 ∨ k = 55 ∨ k = 56 then (1, 14, [])
  else if k = 37 ∨ k = 47 ∨ k = 57 then (1, 10, [])
  else if k = 38 ∨ k = 48 ∨ k = 58 then (1, 3, [])
  else if k < 60 then (1, 8, [])
  else if k = 60 then (0, 5, [some 61])
  else if k = 61 then (1, 80, [])
  else if k = 62 then (1, 8, [])
  else if k = 63 then (1, 60, [])
  else if k = 64 then (4, 4, [some 70, some 72, some 74, some 76])
  else if k = 65 then (5, 5, [some 80, some 83, some 86, some 89, some 92])
  else if k = 70 ∨ k = 72 ∨ k = 74 ∨ k = 76 ∨ k = 81 ∨ k = 84 ∨ k = 87 ∨ k = 90 ∨ k = 93 then (0, 2, [none, none, some (k + 1)])
  else if k < 80 then (1, 24, [])
  else if k = 80 ∨ k = 83 ∨ k = 86 ∨ k = 89 ∨ k = 92 then (0, 3, [none, none, none, some (k + 1), none])
  else if k < 100 then (1, 24, [])
  else if k = 100 then (0, 7, [some 101, some 102, some 103, none, some 104, some 105, some 106, some 107, some 108, some 109, some 110, some 111, some 112, some 113, some 114, none, none, none, none, none, none, none, none, none, none, none, some 115, some 116, some 117, some 118, none, some 119])
  else if k < 104 then (1, 3084, [])
  else if k < 106 then (1, 4, [])
  else if k = 106 then (1, 96, [])
  else if k < 111 then (1, 5, [])
  else if k = 111 then (1, 120, [])
  else if k = 112 then (1, 10, [])
  else if k = 113 then (1, 84, [])
  else if k = 114 then (1, 96, [])
  else if k = 115 then (1, 128, [])
  else if k = 116 then (1, 100, [])
  else if k = 117 then (1, 24, [])
  else (1, 60, [])
def cks : List Nat := List.range 24 ++ ((List.range 9).map (30 + ·) ++ ((List.range 9).map (40 + ·) ++ ((List.range 9).map (50 + ·) ++ ((List.range 6).map (60 + ·) ++ ((List.range 8).map (70 + ·) ++ ((List.range 15).map (80 + ·) ++ (List.range 20).map (100 + ·)))))))
def inK (k : Nat) : Bool := decide (k < 24) || (decide (30 ≤ k) && decide (k < 39)) || (decide (40 ≤ k) && decide (k < 49)) || (decide (50 ≤ k) && decide (k < 59)) || (decide (60 ≤ k) && decide (k < 66)) || (decide (70 ≤ k) && decide (k < 78)) || (decide (80 ≤ k) && decide (k < 95)) || (decide (100 ≤ k) && decide (k < 120))
theorem inK_mem {k : Nat} (h : inK k = true) : k ∈ cks := by
  have hk : k < 120 := by simp only [inK, Bool.or_eq_true, Bool.and_eq_true, decide_eq_true_eq] at h; omega
  have key : ∀ k, k < 120 → inK k = true → k ∈ cks := by decide +kernel
  exact key k hk h
theorem cks_nd : cks.Nodup := by decide +kernel
def fvl (ad : Nat → Nat) (f : Nat → Int32) (i : Nat) (o : Option Nat) : Value := match o with
  | none => .int (f i)
  | some j => .ref (ad j)
def flds (ad : Nat → Nat) (f : Nat → Int32) : Nat → List (Option Nat) → List Value
  | _, [] => []
  | i, o :: r => fvl ad f i o :: flds ad f (i + 1) r
theorem flds_at (ad : Nat → Nat) (f : Nat → Int32) : ∀ (l : List (Option Nat)) (i k : Nat) (o : Option Nat), l[k]? = some o → (flds ad f i l)[k]? = some (fvl ad f (i + k) o)
  | [], i, k, o, h => by simp at h
  | x :: r, i, 0, o, h => by
    simp only [List.getElem?_cons_zero, Option.some.injEq] at h
    subst h
    rfl
  | x :: r, i, k + 1, o, h => by
    simp only [List.getElem?_cons_succ] at h
    have := flds_at ad f r (i + 1) k o h
    simp only [flds, List.getElem?_cons_succ]
    rw [this, show i + 1 + k = i + (k + 1) by omega]
theorem flds_len (ad : Nat → Nat) (f : Nat → Int32) : ∀ (l : List (Option Nat)) (i : Nat), (flds ad f i l).length = l.length
  | [], i => rfl
  | x :: r, i => by simp only [flds, List.length_cons, flds_len ad f r (i + 1)]
theorem flds_set (ad : Nat → Nat) (f : Nat → Int32) (v : Int32) : ∀ (l : List (Option Nat)) (i k : Nat), l[k]? = some none → (flds ad f i l).set k (.int v) = flds ad (upd f (i + k) v) i l
  | [], i, k, h => by simp at h
  | x :: r, i, 0, h => by
    simp only [List.getElem?_cons_zero, Option.some.injEq] at h
    subst h
    have e : ∀ (r : List (Option Nat)) (i0 : Nat), i + 0 < i0 → flds ad f i0 r = flds ad (upd f (i + 0) v) i0 r := by
      intro r
      induction r with
      | nil => intro i0 _; rfl
      | cons z r ih =>
        intro i0 h0
        simp only [flds]
        rw [ih (i0 + 1) (by omega)]
        cases z with
        | none => simp only [fvl]; rw [pk_un (by omega)]
        | some j => rfl
    simp only [flds, List.set_cons_zero, e r (i + 1) (by omega)]
    simp only [fvl, Nat.add_zero]
    rw [pk_us]
  | x :: r, i, k + 1, h => by
    simp only [List.getElem?_cons_succ] at h
    have := flds_set ad f v r (i + 1) k h
    simp only [flds, List.set_cons_succ]
    rw [this, show i + 1 + k = i + (k + 1) by omega]
    congr 1
    cases x with
    | none => simp only [fvl]; rw [pk_un (by omega)]
    | some j => rfl
def cel (G : GT) (M : Mem) (k : Nat) : va_E :=
  if (shp k).1 = 0 then .inr ((shp k).2.1, flds G.1 (M k) 0 (shp k).2.2)
  else if (shp k).1 = 1 then .inl (G.2.2.1 0, (shp k).2.1, .inl (M k))
  else .inl (G.2.2.1 ((shp k).1 - 2), (shp k).2.1, .inr (.inr (.inr (.inr (fun j => ((shp k).2.2.getD j none).map G.1)))))
theorem cel_o (G : GT) (M : Mem) {k ci : Nat} {fl : List (Option Nat)} (h : shp k = (0, ci, fl)) : cel G M k = .inr (ci, flds G.1 (M k) 0 fl) := by
  unfold cel
  rw [h]
  rfl
theorem cel_i (G : GT) (M : Mem) {k n : Nat} {fl : List (Option Nat)} (h : shp k = (1, n, fl)) : cel G M k = .inl (G.2.2.1 0, n, .inl (M k)) := by
  unfold cel
  rw [h]
  rfl
theorem cel_q (G : GT) (M : Mem) {k t n : Nat} {fl : List (Option Nat)} (h : shp k = (t + 2, n, fl)) : cel G M k = .inl (G.2.2.1 t, n, .inr (.inr (.inr (.inr (fun j => (fl.getD j none).map G.1))))) := by
  unfold cel
  rw [h, if_neg (by simp), if_neg (by simp)]
  rfl
theorem cel_n (G : GT) (M : Mem) {k a : Nat} (f : Nat → Int32) (h : a ≠ k) : cel G (ua M k f) a = cel G M a := by
  unfold cel
  rw [ua_n M f h]
def wl (G : GT) (M : Mem) : va_W := cks.map (fun k => (G.1 k, cel G M k))
theorem wl_at (G : GT) (M : Mem) {k : Nat} (h : inK k = true) : ∃ q, (wl G M)[q]? = some (G.1 k, cel G M k) ∧ ∀ f, (wl G M).set q (G.1 k, cel G (ua M k f) k) = wl G (ua M k f) := by
  obtain ⟨q, hq⟩ := List.getElem?_of_mem (inK_mem h)
  refine ⟨q, by unfold wl; rw [List.getElem?_map, hq]; rfl, fun f => ?_⟩
  apply List.ext_getElem?
  intro i
  rw [List.getElem?_set]
  have hql := (List.getElem?_eq_some_iff.mp hq).1
  by_cases e : q = i
  · subst e
    rw [if_pos rfl, if_pos (by unfold wl; rw [List.length_map]; exact hql)]
    unfold wl
    rw [List.getElem?_map, hq]
    rfl
  · rw [if_neg e]
    unfold wl
    rw [List.getElem?_map, List.getElem?_map]
    cases hi : cks[i]? with
    | none => rfl
    | some a =>
      have hne : a ≠ k := by
        intro ea
        subst ea
        exact e ((List.getElem?_inj hql cks_nd).mp (hq.trans hi.symm))
      simp only [Option.map_some]
      rw [cel_n G M f hne]
def tyz (G : GT) : List (ClassId × FieldType) := [(G.2.2.1 0, .int), (G.2.2.1 1, .array .int), (G.2.2.1 2, .object "TattooRoads$Sheet"), (G.2.2.1 3, .object "TattooRoads$Slot")]
def GA (G : GT) : Nat → Prop := fun q => ∃ k, inK k = true ∧ q = G.1 k
def Dj (G : GT) : Prop := ∀ i j, inK i = true → inK j = true → G.1 i = G.1 j → i = j
theorem inK_of {k : Nat} (h : k ∈ cks) : inK k = true := by
  have key : ∀ k ∈ cks, inK k = true := by decide +kernel
  exact key k h
theorem wl_D {G : GT} (h : Dj G) (M : Mem) : va_D (GA G) (wl G M) := by
  constructor
  · intro i j p q hi hj e
    unfold wl at hi hj
    rw [List.getElem?_map] at hi hj
    cases hi2 : cks[i]? with
    | none => rw [hi2] at hi; cases hi
    | some a =>
      cases hj2 : cks[j]? with
      | none => rw [hj2] at hj; cases hj
      | some b =>
        rw [hi2] at hi
        rw [hj2] at hj
        cases hi
        cases hj
        have := h a b (inK_of (List.mem_of_getElem? hi2)) (inK_of (List.mem_of_getElem? hj2)) e
        subst this
        exact (List.getElem?_inj (List.getElem?_eq_some_iff.mp hi2).1 cks_nd).mp (hi2.trans hj2.symm)
  · intro k q hk
    unfold wl at hk
    rw [List.getElem?_map] at hk
    cases hk2 : cks[k]? with
    | none => rw [hk2] at hk; cases hk
    | some a => rw [hk2] at hk; cases hk; exact ⟨a, inK_of (List.mem_of_getElem? hk2), rfl⟩
-- the constants
def kaf (j : Nat) : Value := .int (([-1, 0, 0, 1, 2, 0] : List Int32).getD j 0)
def sidx (i : Nat) : Nat := [91, 97, 99, 80, 82, 84].getD i 0
def stx (i : Nat) : String := ["urge", "fee", "fine", "wao", "ki", "sp"].getD i ""
def slen : List Nat := [4, 3, 4, 3, 2, 2]
def sbyt : List (List Int32) := [[117, 114, 103, 101], [102, 101, 101], [102, 105, 110, 101], [119, 97, 111], [107, 105], [115, 112]]
abbrev nH1 : MethodName := yX7_within
abbrev nH2 : MethodName := yX7_has
abbrev wN1 : Cond := Cond.methodLinkNest RX1 118 yX7_within "TattooRoads"
abbrev wN2 : Cond := Cond.methodLinkNest RX1 93 yX7_has "TattooRoads"
abbrev wN3 : Cond := Cond.methodLinkNest RX6 38 yX7_has "TattooRoads"
abbrev wN4 : Cond := Cond.fieldLinkNest RX0 9 "TattooRoads" "KIND_ABOVE" "[I" "TattooRoads"
def Kc (G : GT) (U : State) (H : Heap) : Prop :=
  (va_Nw wN1 U ∧ va_Nw wN2 U ∧ va_Nw wN3 U ∧ va_Nw wN4 U) ∧ va_Z "TattooRoads" "KIND_ABOVE" "[I" (.ref G.2.2.2.1) (GA G) U H ∧ va_T .int G.2.2.2.1 6 kaf (GA G) U H ∧
  (∀ i, i < 6 → vk_R RX5 (sidx i) (stx i) (G.2.2.2.2.1 i) U) ∧ vk_S 6 slen sbyt G.2.2.2.2.1 G.2.2.2.2.2 (GA G) U H ∧
  va_Z "java/lang/String" "COMPACT_STRINGS" "Z" (.int 1) (GA G) U H ∧ va_Zq "jdk/internal/util/Preconditions" "SIOOBE_FORMATTER" "Ljava/util/function/BiFunction;" (GA G) U H
theorem Kc.call {G : GT} {U : State} (g : JFrame) (mk : MethodId) (a : Array Value) (h : Kc G U U.heap) : Kc G (U.calling g mk a) (U.calling g mk a).heap := by
  obtain ⟨⟨h1, h2, h3, h4⟩, h5, h6, h7, h8, h9, h10⟩ := h
  have e : (U.calling g mk a).heap = U.heap := rfl
  have hv : U.vm.Alike (U.calling g mk a).vm := Vm.Alike.refl U.vm
  rw [e]
  exact ⟨⟨va_Nw.same (u := U) rfl rfl h1, va_Nw.same (u := U) rfl rfl h2, va_Nw.same (u := U) rfl rfl h3, va_Nw.same (u := U) rfl rfl h4⟩, va_Z.moved hv h5, va_T.moved hv h6, fun i hi => vk_R.same (u := U) rfl (h7 i hi), vk_S.moved hv h8, va_Z.moved hv h9, va_Zq.moved hv h10⟩
theorem Kc.warm {G : GT} {s U : State} {H : Heap} (hW : s.WarmedH U.vm) (hq : ∀ a : Nat, a < s.heap.size → ¬ GA G a → H[a]? = s.heap[a]?) (h : Kc G s s.heap) : Kc G U H := by
  obtain ⟨⟨h1, h2, h3, h4⟩, h5, h6, h7, h8, h9, h10⟩ := h
  have hv := hW.alike
  exact ⟨⟨va_Nw.warmM hW h1, va_Nw.warmM hW h2, va_Nw.warmM hW h3, va_Nw.warmF hW h4⟩, va_Z.moved hv (h5.kept hq), va_T.moved hv (h6.kept hq), fun i hi => (h7 i hi).warm hW, vk_S.moved hv (h8.kept hq), va_Z.moved hv (h9.kept hq), va_Zq.moved hv (h10.kept hq)⟩
/-- the world: the cells hold M, the tables are as they are -/
def Wd (G : GT) (M : Mem) (U : State) : Prop := va_P G.2.1 clz (wl G M) U.heap ∧ va_K G.2.1 clz (tyz G) U ∧ Dj G ∧ Kc G U U.heap
theorem Wd.call {G : GT} {M : Mem} {U : State} (g : JFrame) (mk : MethodId) (a : Array Value) (h : Wd G M U) : Wd G M (U.calling g mk a) :=
  ⟨h.1, va_K.moved (u := U) (U := U.calling g mk a) (Vm.Alike.refl U.vm) h.2.1, h.2.2.1, h.2.2.2.call g mk a⟩
def rmD (d : Nat) : Room := { frames := d, cells := 0, slots := 0, locals := 40 * d }
def wsY (y : MT) : List Cond := Cond.code y.1 y.2.1 y.2.2.1 y.2.2.2 :: lw_tblg
def QcW (G : GT) (R : Option Value → Mem → Prop) : Array Value → State → Outcome → State → Prop := fun _ st oc t => (∃ (r : Option Value) (M' : Mem), oc = .returned r ∧ R r M' ∧ Wd G M' t) ∧ va_F (GA G) st t
/-- the method y, called with av over the memory M, at depth d: it returns, and R holds of answer and memory -/
def Tr (l : Launch) (G : GT) (d : Nat) (y : MT) (av : List Value) (M : Mem) (R : Option Value → Mem → Prop) : Prop := Met l y.1 (wsY y) (rmD d) (va_Pc av (Wd G M)) (QcW G R) 0 0 (GA G)
def Lo (a : Array Slot) (vs : List (Option Value)) : Prop := a.size = vs.length ∧ lv_wf a ∧ ∀ (i : Nat) (v : Value), vs[i]? = some (some v) → a[i]? = some (.val v)
def Cx (p : Program) (y : MT) (s : State) (m : MethodId) (args : Array Value) (meth : Method) (c : Code) (G : GT) : Prop :=
  p.tables.exec = Jvm.exec ∧ c.code = y.2.1 ∧ meth.sig.returnType = y.2.2.2 ∧ c.maxLocals = y.2.2.1 ∧ s.vm.findClass y.1.cls = some m.cls ∧ (∀ w ∈ wsY y, w.before args s = true) ∧ meth.locks = false ∧ va_K G.2.1 clz (tyz G) s ∧ Dj G ∧ Kc G s s.heap
/-- in the method y at pc, with these locals, this stack, this memory: it returns, and R holds of answer and memory -/
def At (l : Launch) (G : GT) (d : Nat) (y : MT) (pc : Nat) (vs : List (Option Value)) (st : List Value) (M : Mem) (R : Option Value → Mem → Prop) : Prop :=
  ∀ (p : Program) (e : Env) (s : State) (m : MethodId) (args : Array Value) (below : List Frame) (meth : Method) (c : Code), Cx p y s m args meth c G → ∀ (H : Heap) (locs : List Loc) (ls : Array Slot), va_P G.2.1 clz (wl G M) H → va_S (GA G) s.heap H locs → Lo ls vs → vs.length = y.2.2.1 →
    W p l e (rmD d) s m args below meth c H locs 0 0 (MQ below (QcW G R) args s 0 0 (GA G)) (F0 m pc ls st)
theorem Tr.mono {l : Launch} {G : GT} {d : Nat} {y : MT} {av : List Value} {M : Mem} {R R' : Option Value → Mem → Prop} (h : Tr l G d y av M R) (hR : ∀ r M', R r M' → R' r M') : Tr l G d y av M R' := by
  intro p e h1 h2 h3 s m args below h4 h5 h6 h7
  obtain ⟨k, o, g1, g2, g3, ⟨⟨r, M', q1, q2, q3⟩, q4⟩, g5⟩ := h p e h1 h2 h3 s m args below h4 h5 h6 h7
  exact ⟨k, o, g1, g2, g3, ⟨⟨r, M', q1, hR _ _ q2, q3⟩, q4⟩, g5⟩
def va_lo : List Value → List (Option Value)
  | [] => []
  | v :: vs => if v.category = 2 then some v :: none :: va_lo vs else some v :: va_lo vs
def loE (vs : List Value) (n : Nat) : List (Option Value) := va_lo vs ++ List.replicate (n - (va_lo vs).length) none
theorem va_lo_len : ∀ vs : List Value, (va_lo vs).length = (lg_sl vs).length
  | [] => rfl
  | v :: vs => by
    have ih := va_lo_len vs
    unfold lg_sl at ih ⊢
    simp only [va_lo, List.flatMap_cons]
    split <;> simp [ih] <;> omega
theorem va_lo_args : ∀ (vs : List Value) (k i : Nat) (v : Value), (va_lo vs)[i]? = some (some v) → (k + i, v) ∈ lv_args k vs
  | [], k, i, v, h => by simp [va_lo] at h
  | w :: vs, k, i, v, h => by
    simp only [va_lo] at h
    simp only [lv_args]
    by_cases hc : w.category = 2
    · rw [if_pos hc] at h ⊢
      match i, h with
      | 0, h => simp at h; subst h; exact List.mem_cons_self
      | 1, h => simp at h
      | i + 2, h =>
        simp only [List.getElem?_cons_succ] at h
        have := va_lo_args vs (k + 2) i v h
        rw [show k + 2 + i = k + (i + 2) by omega] at this
        exact List.mem_cons_of_mem _ this
    · rw [if_neg hc] at h ⊢
      match i, h with
      | 0, h => simp at h; subst h; exact List.mem_cons_self
      | i + 1, h =>
        simp only [List.getElem?_cons_succ] at h
        have := va_lo_args vs (k + 1) i v h
        rw [show k + 1 + i = k + (i + 1) by omega] at this
        exact List.mem_cons_of_mem _ this
theorem Lo.entry (vs : List Value) {n : Nat} (h : (va_lo vs).length ≤ n) : Lo ((lg_sl vs ++ List.replicate (n - (lg_sl vs).length) Slot.unset).toArray) (loE vs n) := by
  have hlen := va_lo_len vs
  obtain ⟨h1, h2, h3⟩ := lv_entry vs (n := n) (by omega)
  refine ⟨?_, h2, fun i v hv => ?_⟩
  · simp only [loE, List.size_toArray, List.length_append, List.length_replicate]
    omega
  · unfold loE at hv
    by_cases hi : i < (va_lo vs).length
    · rw [List.getElem?_append_left hi] at hv
      have := va_lo_args vs 0 i v hv
      rw [Nat.zero_add] at this
      exact h3 (i, v) this
    · rw [List.getElem?_append_right (by omega), List.getElem?_replicate] at hv
      split at hv <;> simp at hv
/-- a method by its body -/
theorem Tr.of {l : Launch} {G : GT} {d : Nat} {y : MT} {av : List Value} {M : Mem} {R : Option Value → Mem → Prop} (hy : plainName y.1.cls = true) (hl : (va_lo av).length ≤ y.2.2.1) {vs : List (Option Value)} (hv : loE av y.2.2.1 = vs) (k : At l G d y 0 vs [] M R) : Tr l G d y av M R := by
  subst hv
  refine Met.ofW (cc := y.2.1) (maxL := y.2.2.1) (ret := y.2.2.2) hy rfl ?_
  intro p e s m args below meth c s₁ B hml hv
  obtain ⟨rfl, hP, hK, hJ, hC⟩ := hv
  rw [lg_entry_eq]
  refine k p e s m _ below meth c ⟨B.exec, B.bytes, B.returns, hml, findClass_of_methodNamed B.named, atoms_spec (ws := wsY y) B.pre, B.notSynchronized, hK, hJ, hC⟩ s.heap [] _ hP va_S.rf (Lo.entry av hl) ?_
  simp only [loE, List.length_append, List.length_replicate]
  omega
theorem Lo.set {a : Array Slot} {vs : List (Option Value)} {i : Nat} {v : Value} (h : Lo a vs) (hi : i < vs.length) (hc : v.category = 1) (h1 : vs.all (fun o => match o with | none => true | some w => w.category == 1) = true) : ∃ a', storeLocals a i v = some a' ∧ Lo a' (vs.set i (some v)) := by
  obtain ⟨h2, h3, h4⟩ := h
  let l : List (Nat × Value) := (List.range vs.length).filterMap (fun j => (vs.getD j none).map (fun w => (j, w)))
  have hm : ∀ (j : Nat) (w : Value), vs[j]? = some (some w) ↔ (j, w) ∈ l := by
    intro j w
    simp only [l, List.mem_filterMap, List.mem_range, Option.map_eq_some_iff, Prod.mk.injEq]
    constructor
    · intro hj
      exact ⟨j, (List.getElem?_eq_some_iff.mp hj).1, w, by rw [List.getD_eq_getElem?_getD, hj]; rfl, rfl, rfl⟩
    · rintro ⟨j', hj', w', e1, rfl, rfl⟩
      rw [List.getD_eq_getElem?_getD] at e1
      cases hz : vs[j']? with
      | none => rw [hz] at e1; cases e1
      | some o => rw [hz] at e1; simp only [Option.getD_some] at e1; rw [e1]
  have hh : lv_has a vs.length l := ⟨h2, h3, fun q hq => h4 q.1 q.2 ((hm q.1 q.2).mpr hq)⟩
  obtain ⟨a', e', g1, g2, g3⟩ := lv_store1 (v := v) hh hi hc
  refine ⟨a', e', by rw [g1, List.length_set], g2, fun j w hj => ?_⟩
  rw [List.getElem?_set] at hj
  by_cases e : i = j
  · subst e
    rw [if_pos rfl, if_pos hi] at hj
    cases hj
    exact g3 (i, v) List.mem_cons_self
  · rw [if_neg e] at hj
    refine g3 (j, w) (List.mem_cons_of_mem _ (List.mem_filter.mpr ⟨(hm j w).mp hj, ?_⟩))
    have hw := List.all_eq_true.mp h1 (some w) (List.mem_of_getElem? hj)
    simp only [beq_iff_eq] at hw
    simp [hw, Ne.symm e]
