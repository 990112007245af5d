/-! THE MEMORY of the whole system: ints and longs by cell and place; all cells but the constructors' making are fixed -/
abbrev Mm : Type := (Nat → Nat → Int32) × (Nat → Nat → Int64)
def rdI (g : Mm) (c i : Nat) : Int32 := g.1 c i
def rdL (g : Mm) (c i : Nat) : Int64 := g.2 c i
def up_f {β : Type} (f : Nat → β) (i : Nat) (v : β) : Nat → β := fun j => if j = i then v else f j
def wrI (g : Mm) (c i : Nat) (v : Int32) : Mm := (up_f g.1 c (up_f (g.1 c) i v), g.2)
def wrL (g : Mm) (c i : Nat) (v : Int64) : Mm := (g.1, up_f g.2 c (up_f (g.2 c) i v))
/-- n places of row a from i on are laid into row b from j on -/
def cpI (g : Mm) (a i b j n : Nat) : Mm := (up_f g.1 b (fun k => if j ≤ k ∧ k < j + n then g.1 a (i + (k - j)) else g.1 b k), g.2)
def cpL (g : Mm) (a i b j n : Nat) : Mm := (g.1, up_f g.2 b (fun k => if j ≤ k ∧ k < j + n then g.2 a (i + (k - j)) else g.2 b k))
/-- which of the two Programs -/
def pgm (x : Int32) : Nat := if x = 0 then 13 else 18
/-- an index within -/
def ixo (i : Int32) (n : Nat) : Bool := decide (0 ≤ i.toInt) && decide (i.toInt < (n : Int))
def bdd {β γ : Type} (x : Option (β × Mm)) (k : β → Mm → Option γ) : Option γ := match x with
  | some p => k p.1 p.2
  | none => none
theorem ret_eq {β : Type} {a c : β} {b d : Mm} (h : some (a, b) = some (c, d)) : a = c ∧ b = d := by
  have q := Option.some.inj h
  exact ⟨congrArg Prod.fst q, congrArg Prod.snd q⟩
theorem bdd_some {β γ : Type} {r : β} {g : Mm} {k : β → Mm → Option γ} : bdd (some (r, g)) k = k r g := rfl
theorem bdd_eq {β γ : Type} {x : Option (β × Mm)} {k : β → Mm → Option γ} {y : γ} (h : bdd x k = some y) : ∃ r g, x = some (r, g) ∧ k r g = some y := by
  cases x with
  | none => cases h
  | some p => exact ⟨p.1, p.2, rfl, h⟩
def gdd {γ : Type} (b : Bool) (k : Option γ) : Option γ := match b with
  | true => k
  | false => none
theorem gdd_eq {γ : Type} {b : Bool} {k : Option γ} {y : γ} (h : gdd b k = some y) : b = true ∧ k = some y := by
  cases b with
  | true => exact ⟨rfl, h⟩
  | false => cases h
theorem gdd_true {γ : Type} {k : Option γ} : gdd true k = k := rfl
theorem ixo_in {i : Int32} {n : Nat} (h : ixo i n = true) : vp_in i n := by
  simp only [ixo, Bool.and_eq_true, decide_eq_true_eq] at h
  intro q
  rcases q with q | q
  · have := Int32.lt_iff_toInt_lt.mp q
    simp at this
    omega
  · have e : i.toNatClampNeg = i.toInt.toNat := rfl
    omega
theorem ixo_lt {i : Int32} {n : Nat} (h : ixo i n = true) : ¬ i < 0 ∧ i.toNatClampNeg < n := by
  have := ixo_in h
  exact ⟨fun q => this (Or.inl q), Nat.not_le.mp fun q => this (Or.inr q)⟩
def fuL : Nat := 1000000000000000000
/-! THE WORLD: 63 cells -/
def cellsL (al : Nat → Nat) (cI cJ : ClassId) : List ((Nat → Int32) → (Nat → Int64) → va_E) := [
  fun r q => .inr (9, [.ref (al 1), .ref (al 7), .ref (al 11), .ref (al 23), .ref (al 25), .ref (al 29), .ref (al 32), .ref (al 35)]),
  fun r q => .inr (8, [.int (r 0), .int (r 1), .int (r 2), .ref (al 2), .ref (al 3), .ref (al 4), .ref (al 5), .ref (al 6)]),
  fun r q => .inl (cI, 6, .inl r),
  fun r q => .inl (cI, 6, .inl r),
  fun r q => .inl (cI, 6, .inl r),
  fun r q => .inl (cI, 144, .inl r),
  fun r q => .inl (cI, 24, .inl r),
  fun r q => .inr (1, [.ref (al 8), .ref (al 9), .ref (al 10), .int (r 3), .int (r 4)]),
  fun r q => .inl (cI, 40, .inl r),
  fun r q => .inl (cI, 40, .inl r),
  fun r q => .inl (cI, 40, .inl r),
  fun r q => .inr (3, [.ref (al 12), .int (r 1), .int (r 2), .ref (al (pgm (r 3))), .ref (al (pgm (r 4)))]),
  fun r q => .inl (cI, 120, .inl r),
  fun r q => .inr (4, [.ref (al 14), .ref (al 15), .ref (al 16), .ref (al 17), .int (r 4)]),
  fun r q => .inl (cI, 121, .inl r),
  fun r q => .inl (cI, 121, .inl r),
  fun r q => .inl (cI, 121, .inl r),
  fun r q => .inl (cI, 6, .inl r),
  fun r q => .inr (4, [.ref (al 19), .ref (al 20), .ref (al 21), .ref (al 22), .int (r 4)]),
  fun r q => .inl (cI, 121, .inl r),
  fun r q => .inl (cI, 121, .inl r),
  fun r q => .inl (cI, 121, .inl r),
  fun r q => .inl (cI, 6, .inl r),
  fun r q => .inr (7, [.ref (al 1), .ref (al 24), .int (r 2)]),
  fun r q => .inl (cI, 276, .inl r),
  fun r q => .inr (5, [.ref (al 1), .ref (al 26), .ref (al 27), .ref (al 28), .int (r 4)]),
  fun r q => .inl (cI, 6, .inl r),
  fun r q => .inl (cI, 144, .inl r),
  fun r q => .inl (cI, 144, .inl r),
  fun r q => .inr (2, [.ref (al 1), .ref (al 30), .ref (al 31), .int (r 3), .int (r 4)]),
  fun r q => .inl (cI, 6, .inl r),
  fun r q => .inl (cI, 72, .inl r),
  fun r q => .inr (0, [.ref (al 33), .ref (al 34), .int (r 2), .int (r 3), .int (r 4)]),
  fun r q => .inl (cI, 50, .inl r),
  fun r q => .inl (cI, 24, .inl r),
  fun r q => .inr (6, [.ref (al 36), .ref (al 37), .ref (al 38), .ref (al 39)]),
  fun r q => .inl (cI, 6, .inl r),
  fun r q => .inl (cI, 6, .inl r),
  fun r q => .inl (cI, 6, .inl r),
  fun r q => .inl (cJ, 360, .inr (.inl q)),
  fun r q => .inr (10, [.int (r 0), .ref (al 41), .ref (al 42), .ref (al 43), .int (r 4), .int (r 5), .int (r 6), .ref (al 44), .ref (al 45), .ref (al 46), .ref (al 47), .ref (al 48), .int (r 12), .int (r 13), .ref (al 49), .int (r 15), .ref (al 50), .int (r 17), .int (r 18), .int (r 19), .int (r 20), .int (r 21), .int (r 22), .int (r 23), .int (r 24), .int (r 25), .int (r 26), .int (r 27), .int (r 28), .int (r 29), .int (r 30), .int (r 31), .ref (al 51), .int (r 33), .ref (al 52), .ref (al 53), .ref (al 54), .ref (al 55), .int (r 38), .ref (al 56), .int (r 40), .ref (al 57), .int (r 42), .int (r 43), .int (r 44), .ref (al 58), .ref (al 59), .ref (al 60), .ref (al 61), .ref (al 62)]),
  fun r q => .inl (cI, 6, .inl r),
  fun r q => .inl (cI, 6, .inl r),
  fun r q => .inl (cI, 6, .inl r),
  fun r q => .inl (cI, 144, .inl r),
  fun r q => .inl (cI, 24, .inl r),
  fun r q => .inl (cI, 40, .inl r),
  fun r q => .inl (cI, 40, .inl r),
  fun r q => .inl (cI, 40, .inl r),
  fun r q => .inl (cI, 120, .inl r),
  fun r q => .inl (cI, 120, .inl r),
  fun r q => .inl (cI, 6, .inl r),
  fun r q => .inl (cI, 144, .inl r),
  fun r q => .inl (cI, 144, .inl r),
  fun r q => .inl (cI, 6, .inl r),
  fun r q => .inl (cI, 72, .inl r),
  fun r q => .inl (cI, 50, .inl r),
  fun r q => .inl (cI, 24, .inl r),
  fun r q => .inl (cI, 6, .inl r),
  fun r q => .inl (cI, 6, .inl r),
  fun r q => .inl (cI, 6, .inl r),
  fun r q => .inl (cI, 6, .inl r),
  fun r q => .inl (cJ, 360, .inr (.inl q))]

def cellE (al : Nat → Nat) (cI cJ : ClassId) (id : Nat) (r : Nat → Int32) (q : Nat → Int64) : va_E := match (cellsL al cI cJ)[id]? with
  | some f => f r q
  | none => .inr (0, [])
def wld (al : Nat → Nat) (cI cJ : ClassId) (g : Mm) : va_W := (List.range 63).map fun id => (al id, cellE al cI cJ id (g.1 id) (g.2 id))
theorem wld_get {al : Nat → Nat} {cI cJ : ClassId} {g : Mm} {id : Nat} (h : id < 63) : (wld al cI cJ g)[id]? = some (al id, cellE al cI cJ id (g.1 id) (g.2 id)) := by
  simp [wld, h]
theorem wld_is {al : Nat → Nat} {cI cJ : ClassId} {g : Mm} {id : Nat} (h : id < 63) {E : va_E} (hc : cellE al cI cJ id (g.1 id) (g.2 id) = E) : (wld al cI cJ g)[id]? = some (al id, E) := by
  rw [wld_get h, hc]
theorem wld_set {al : Nat → Nat} {cI cJ : ClassId} {g g' : Mm} {id : Nat} (h : id < 63) {E : va_E} (hE : cellE al cI cJ id (g'.1 id) (g'.2 id) = E) (h1 : ∀ j, j ≠ id → g'.1 j = g.1 j) (h2 : ∀ j, j ≠ id → g'.2 j = g.2 j) : (wld al cI cJ g).set id (al id, E) = wld al cI cJ g' := by
  refine List.ext_getElem? fun k => ?_
  by_cases hk : k = id
  · subst hk
    rw [List.getElem?_set_self (by simp [wld, h]), wld_get h, hE]
  · rw [List.getElem?_set_ne (Ne.symm hk)]
    by_cases hl : k < 63
    · rw [wld_get hl, wld_get hl, h1 k hk, h2 k hk]
    · rw [List.getElem?_eq_none (by simp [wld]; omega), List.getElem?_eq_none (by simp [wld]; omega)]
def gx_Dj (al : Nat → Nat) (A : Nat → Prop) : Prop := (∀ i j, i < 63 → j < 63 → al i = al j → i = j) ∧ ∀ k, k < 63 → A (al k)
theorem wld_some {al : Nat → Nat} {cI cJ : ClassId} {g : Mm} {k : Nat} {q : Nat × va_E} (h : (wld al cI cJ g)[k]? = some q) : k < 63 ∧ q.1 = al k := by
  have hl : k < 63 := by
    have := (List.getElem?_eq_some_iff.mp h).1
    simpa [wld] using this
  rw [wld_get hl] at h
  cases h
  exact ⟨hl, rfl⟩
theorem gx_Dj.D {al : Nat → Nat} {A : Nat → Prop} (h : gx_Dj al A) {cI cJ : ClassId} {g : Mm} : va_D A (wld al cI cJ g) := by
  refine ⟨fun i j p q hi hj hpq => ?_, fun k q hk => ?_⟩
  · obtain ⟨h1, e1⟩ := wld_some hi
    obtain ⟨h2, e2⟩ := wld_some hj
    exact h.1 i j h1 h2 (e1.symm.trans (hpq.trans e2))
  · obtain ⟨h1, e1⟩ := wld_some hk
    rw [e1]
    exact h.2 k h1
def aw_ (al : Nat → Nat) (sz : Nat) : Nat → Prop := fun q => (∃ k, k < 63 ∧ q = al k) ∨ sz ≤ q
def tb_above : Nat → Value := fun j => .int (([0, 0, 0, 2, 0, 1, 0, 3] : List Int32).getD j 0)
def tb_own : Nat → Value := fun j => .int (([1, 10, 11, 2, 20, 0, 0, 0, 0, 30, 0, 0, 0, 41, 40, 0, 0, 0, 50, 0, 0, 0, 0, 60, 70, 0, 0, 0, 0, 80, 0, 81] : List Int32).getD j 0)
def tbI (t : Nat) (j : Nat) : Int32 := if t = 100 then ([0, 0, 0, 2, 0, 1, 0, 3] : List Int32).getD j 0 else ([1, 10, 11, 2, 20, 0, 0, 0, 0, 30, 0, 0, 0, 41, 40, 0, 0, 0, 50, 0, 0, 0, 0, 60, 70, 0, 0, 0, 0, 80, 0, 81] : List Int32).getD j 0
/-- what a method takes along: links across the nest, the two static tables -/
def gx_A (al : Nat → Nat) (A : Nat → Prop) (U : State) (H : Heap) : Prop :=
  (∀ w ∈ nw_m, va_Nw (.methodLinkNest w.1 w.2.1 w.2.2.1 w.2.2.2) U) ∧ (∀ w ∈ nw_f, va_Nw (.fieldLinkNest w.1 w.2.1 w.2.2.1 w.2.2.2.1 w.2.2.2.2.1 w.2.2.2.2.2) U) ∧
  va_Z "AnyTwoBells$Acts" "ABOVE" "[I" (.ref (al 100)) A U H ∧ va_T .int (al 100) 8 tb_above A U H ∧ va_Z "AnyTwoBells$Acts" "OWN" "[I" (.ref (al 101)) A U H ∧ va_T .int (al 101) 32 tb_own A U H
theorem gx_A.warm {al : Nat → Nat} {A B : Nat → Prop} {u U : State} {H H1 : Heap} (h : gx_A al A u H) (hW : u.WarmedH U.vm) (hq : ∀ a : Nat, a < H.size → ¬ A a → H1[a]? = H[a]?) (hAB : ∀ q, B q → A q) : gx_A al B U H1 := by
  obtain ⟨h1, h2, h3, h4, h5, h6⟩ := h
  exact ⟨fun w hw => va_Nw.warmM hW (h1 w hw), fun w hw => va_Nw.warmF hW (h2 w hw), ((va_Z.moved hW.alike h3).kept hq).narrow hAB, ((va_T.moved hW.alike h4).kept hq).narrow hAB, ((va_Z.moved hW.alike h5).kept hq).narrow hAB, ((va_T.moved hW.alike h6).kept hq).narrow hAB⟩
theorem gx_A.same {al : Nat → Nat} {A : Nat → Prop} {u U : State} {H : Heap} (h : gx_A al A u H) (hv : u.vm = U.vm) : gx_A al A U H := by
  obtain ⟨h1, h2, h3, h4, h5, h6⟩ := h
  have ha : u.vm.Alike U.vm := by rw [hv]; exact Vm.Alike.refl _
  exact ⟨fun w hw => va_Nw.same rfl hv (h1 w hw), fun w hw => va_Nw.same rfl hv (h2 w hw), va_Z.moved ha h3, va_T.moved ha h4, va_Z.moved ha h5, va_T.moved ha h6⟩
abbrev tysW (cI cJ : ClassId) : List (ClassId × FieldType) := [(cI, .int), (cJ, .long)]
/-! what holds throughout a method's walk -/
def gx_X (p : Program) (R : Room) (s : State) (m : MethodId) (args : Array Value) (meth : Method) (c : Code) (D : va_G) (al : Nat → Nat) (cI cJ : ClassId) (A : Nat → Prop) (own : String) (cc : ByteArray) (nL : Nat) (rt : Option FieldType) (d cells slots : Nat) : Prop :=
  p.tables.exec = Jvm.exec ∧ c.code = cc ∧ c.maxLocals = nL ∧ s.vm.findClass own = some m.cls ∧ (∀ w ∈ gg_l, w.before args s = true) ∧ va_K D classes (tysW cI cJ) s ∧ gx_A al A s s.heap ∧
  (d ≤ R.frames ∧ 60 * d ≤ R.locals) ∧ (cells ≤ R.cells ∧ slots ≤ R.slots) ∧ (∀ q, s.heap.size ≤ q → A q) ∧ gx_Dj al A ∧ meth.sig.returnType = rt ∧ meth.locks = false
/-- W at any heap that holds the memory g and any locals that hold ls -/
def gx_G (p : Program) (l : Launch) (e : Env) (R : Room) (s : State) (m : MethodId) (args : Array Value) (below : List Frame) (meth : Method) (c : Code) (Q : State → Prop) (D : va_G) (al : Nat → Nat) (cI cJ : ClassId) (A : Nat → Prop) (nL cells slots : Nat) (pc : Nat) (ls : List (Nat × Value)) (st : List Value) (g : Mm) : Prop :=
  ∀ (H : Heap) (lo : List Loc) (la : Array Slot), va_P D classes (wld al cI cJ g) H → va_S A s.heap H lo → lv_has la nL ls → W p l e R s m args below meth c H lo cells slots Q (F0 m pc la st)
/-- a method's end, for a contract -/
def gx_Q (below : List Frame) (args : Array Value) (s : State) (D : va_G) (al : Nat → Nat) (cI cJ : ClassId) (A : Nat → Prop) (r : Option Value) (g : Mm) : State → Prop :=
  MQ below (fun _ st o t => (o = .returned r ∧ va_P D classes (wld al cI cJ g) t.heap ∧ va_K D classes (tysW cI cJ) t) ∧ va_F A st t) args s 0 0 A
/-- the contract of method y: from memory g with these arguments it answers r, the memory is g2 -/
def gx_M (d : Nat) (y : MethodName) (b : ByteArray) (nL : Nat) (rt : Option FieldType) (av : (Nat → Nat) → List Value) (g : Mm) (r : Option Value) (g2 : Mm) : Prop :=
  ∀ (l : Launch) (D : va_G) (al : Nat → Nat) (cI cJ : ClassId) (sz : Nat), Met l y (Cond.code y b nL rt :: gg_l) { frames := d, cells := 0, slots := 0, locals := 60 * d }
    (va_Pc (av al) (fun U => U.heap.size = sz ∧ va_P D classes (wld al cI cJ g) U.heap ∧ va_K D classes (tysW cI cJ) U ∧ gx_Dj al (fun _ => True) ∧ gx_A al (aw_ al sz) U U.heap))
    (fun _ st o t => (o = .returned r ∧ va_P D classes (wld al cI cJ g2) t.heap ∧ va_K D classes (tysW cI cJ) t) ∧ va_F (aw_ al sz) st t) 0 0 (aw_ al sz)
/-- links, as the class files have them -/
def gx_f (own : String) (idx ci k : Nat) : Prop := ∃ (C : String) (T : u_T) (N : Nat), classes[ci]? = some (C, T, N) ∧ (∀ w ∈ u_ws C T N, w ∈ gg_l) ∧ k < N ∧ Cond.fieldLink own idx (T k).1 (T k).2.1 (T k).2.2.1 ∈ gg_l
def gx_fn (own : String) (idx ci k : Nat) : Prop := ∃ (C : String) (T : u_T) (N : Nat) (host : String), classes[ci]? = some (C, T, N) ∧ (∀ w ∈ u_ws C T N, w ∈ gg_l) ∧ k < N ∧ (own, idx, (T k).1, (T k).2.1, (T k).2.2.1, host) ∈ nw_f
def gx_p (ci k : Nat) (ty : FieldType) : Prop := ∃ (C : String) (T : u_T) (N : Nat) (tyf : Nat → FieldType), classes[ci]? = some (C, T, N) ∧ (∀ k, k < N → parseFieldDescriptor (T k).2.2.1 = some (tyf k)) ∧ (∀ a, a < N → ∀ b, b < N → a ≠ b → (T a).2.1 ≠ (T b).2.1) ∧ (T k).2.2.2 = false ∧ parseFieldDescriptor (T k).2.2.1 = some ty
def gx_c (y : MethodName) (b : ByteArray) (nL : Nat) (rt : Option FieldType) (n : Nat) : Prop := Cond.code y b nL rt ∈ gg_l ∧ Cond.initialized y.cls ∈ gg_l ∧ y.cls ≠ "java/lang/invoke/MethodHandle" ∧ y.cls ≠ "java/lang/invoke/VarHandle" ∧ (parseMethodDescriptor y.desc).map (fun d => d.parameters.length) = some n ∧ nL ≤ 40
def gx_i (y : MethodName) : Prop := Cond.instanceMethod y ∈ gg_l ∧ Cond.selects y.cls y y ∈ gg_l
def shlI (x y : Int32) : Int32 := x <<< (y &&& 31)
def shrI (x y : Int32) : Int32 := x >>> (y &&& 31)
def rmI (x y : Int32) : Int32 := x - x / y * y
def rmL (x y : Int64) : Int64 := x - x / y * y
def shlL (x : Int64) (y : Int32) : Int64 := x <<< (y.toInt64 &&& 63)
/-- a value by a name -/
def lti {β γ : Type} (x : β) (k : β → Option γ) : Option γ := k x
theorem lti_eq {β γ : Type} {x : β} {k : β → Option γ} {y : γ} (h : lti x k = some y) : ∃ v, v = x ∧ k v = some y := ⟨x, rfl, h⟩
section GX
variable {p : Program} {l : Launch} {e : Env} {R : Room} {s : State} {m : MethodId} {args : Array Value} {below : List Frame} {meth : Method} {c : Code} {Q : State → Prop} {D : va_G} {al : Nat → Nat} {cI cJ : ClassId} {A : Nat → Prop} {own : String} {cc : ByteArray} {nL d : Nat} {rt : Option FieldType} {cells slots : Nat} {pc : Nat} {ls : List (Nat × Value)} {st : List Value} {g : Mm}
theorem gx_ofW {l : Launch} {y : MethodName} {ws ws' : List Cond} {rm : Room} {Pc : Array Value → State → Prop} {Qc : Array Value → State → Outcome → State → Prop} {mc ms : Nat} {free : Addr → Prop} {b : ByteArray} {ml : Nat} {ret : Option FieldType}
    (hy : plainFor y = true) (hw : ws = Cond.code y b ml ret :: ws')
    (body : ∀ p e s m args below meth c s₁, BodyLoose p l y (headSpec ws rm) b ml ret e s m args below meth c s₁ → c.maxLocals = ml → Pc args s →
      W p l e (headSpec ws rm).room s m args below meth c s.heap [] 0 0 (MQ below Qc args s mc ms free) (entryFrame m args ml)) : Met l y ws rm Pc Qc mc ms free := by
  refine MetFree.of_bodySF (code := b) (maxLocals := ml) (ret := ret) hy (fun args s m h hn => ?_) (fun p e s m args below meth c s₁ B hml hP _ => ?_)
  · have hcode := atoms_spec (ws := ws) h (Cond.code y b ml ret) (by rw [hw]; exact List.mem_cons_self)
    obtain ⟨meth, c, h1, h2, h3, h4, h5, h6, -, -⟩ := Cond.code_spec hn hcode
    exact ⟨meth, c, h1, h2, h3, h4, h5, h6⟩
  · have hheap : s₁.heap = s.heap := by rw [B.state]; rfl
    obtain ⟨t, hst, o, h1, h2, h3⟩ := body p e s m args below meth c s₁ B hml hP s₁ hheap (Stand.of_body B)
    exact ⟨t, o, hst, h1, h2, h3.1, h3.2⟩
theorem gx_M.of {y : MethodName} {b : ByteArray} {av : (Nat → Nat) → List Value} {r : Option Value} {g2 : Mm} (hy : plainFor y = true) (hav : ∀ al, (lg_sl (av al)).length ≤ nL)
    (body : ∀ (p : Program) (l : Launch) (e : Env) (R : Room) (s : State) (m : MethodId) (args : Array Value) (below : List Frame) (meth : Method) (c : Code) (D : va_G) (al : Nat → Nat) (cI cJ : ClassId) (A : Nat → Prop), gx_X p R s m args meth c D al cI cJ A y.cls b nL rt d 0 0 →
      gx_G p l e R s m args below meth c (gx_Q below args s D al cI cJ A r g2) D al cI cJ A nL 0 0 0 (lv_args 0 (av al)) [] g) : gx_M d y b nL rt av g r g2 := by
  intro l D al cI cJ sz
  refine gx_ofW (b := b) (ml := nL) (ret := rt) hy rfl ?_
  intro p e s m args below meth c s₁ B hml hv
  obtain ⟨rfl, hsz, hP, hK, hD, hA⟩ := hv
  subst hsz
  have hts := atoms_spec (ws := Cond.code y b nL rt :: gg_l) B.pre
  have X : gx_X p (headSpec (Cond.code y b nL rt :: gg_l) { frames := d, cells := 0, slots := 0, locals := 60 * d }).room s m (av al).toArray meth c D al cI cJ (aw_ al s.heap.size) y.cls b nL rt d 0 0 :=
    ⟨B.exec, B.bytes, hml, findClass_of_methodNamed B.named, fun w hw => hts w (List.mem_cons_of_mem _ hw), hK, hA, ⟨Nat.le_refl _, Nat.le_refl _⟩, ⟨Nat.le_refl _, Nat.le_refl _⟩, fun q h => Or.inr h, ⟨hD.1, fun k hk => Or.inl ⟨k, hk, rfl⟩⟩, B.returns, B.notSynchronized⟩
  rw [lg_entry_eq]
  exact body p l e _ s m _ below meth c D al cI cJ _ X _ _ _ hP va_S.rf (lv_entry (av al) (hav al))
/-- other locals, fewer or in another order -/
theorem gx_sub (ks : List Nat) {ls' : List (Nat × Value)} (hl : lv_pick ls ks = ls') (k : gx_G p l e R s m args below meth c Q D al cI cJ A nL cells slots pc ls' st g) : gx_G p l e R s m args below meth c Q D al cI cJ A nL cells slots pc ls st g := fun H lo la hP hS h => k H lo la hP hS (lv_sub h ks hl)
theorem gx_eq {pc' : Nat} {ls' : List (Nat × Value)} {st' : List Value} {g' : Mm} (h : pc' = pc ∧ ls' = ls ∧ st' = st ∧ g' = g) (k : gx_G p l e R s m args below meth c Q D al cI cJ A nL cells slots pc' ls' st' g') : gx_G p l e R s m args below meth c Q D al cI cJ A nL cells slots pc ls st g := by
  obtain ⟨rfl, rfl, rfl, rfl⟩ := h
  exact k

theorem gx_iadd (X : gx_X p R s m args meth c D al cI cJ A own cc nL rt d cells slots) {x y : Int32} (hdg : decode cc pc = .ok (.iadd, 1)) (k : gx_G p l e R s m args below meth c Q D al cI cJ A nL cells slots (pc + 1) (ls) (.int (x + y) :: st) (g)) : gx_G p l e R s m args below meth c Q D al cI cJ A nL cells slots (pc) (ls) (.int y :: .int x :: st) (g) := fun H lo la hP hS h => lv_iadd X.1 X.2.1 hdg (k H lo la hP hS h)
theorem gx_isub (X : gx_X p R s m args meth c D al cI cJ A own cc nL rt d cells slots) {x y : Int32} (hdg : decode cc pc = .ok (.isub, 1)) (k : gx_G p l e R s m args below meth c Q D al cI cJ A nL cells slots (pc + 1) (ls) (.int (x - y) :: st) (g)) : gx_G p l e R s m args below meth c Q D al cI cJ A nL cells slots (pc) (ls) (.int y :: .int x :: st) (g) := fun H lo la hP hS h => lv_isub X.1 X.2.1 hdg (k H lo la hP hS h)
theorem gx_imul (X : gx_X p R s m args meth c D al cI cJ A own cc nL rt d cells slots) {x y : Int32} (hdg : decode cc pc = .ok (.imul, 1)) (k : gx_G p l e R s m args below meth c Q D al cI cJ A nL cells slots (pc + 1) (ls) (.int (x * y) :: st) (g)) : gx_G p l e R s m args below meth c Q D al cI cJ A nL cells slots (pc) (ls) (.int y :: .int x :: st) (g) := fun H lo la hP hS h => lv_imul X.1 X.2.1 hdg (k H lo la hP hS h)
theorem gx_iand (X : gx_X p R s m args meth c D al cI cJ A own cc nL rt d cells slots) {x y : Int32} (hdg : decode cc pc = .ok (.iand, 1)) (k : gx_G p l e R s m args below meth c Q D al cI cJ A nL cells slots (pc + 1) (ls) (.int (x &&& y) :: st) (g)) : gx_G p l e R s m args below meth c Q D al cI cJ A nL cells slots (pc) (ls) (.int y :: .int x :: st) (g) := fun H lo la hP hS h => lv_iand X.1 X.2.1 hdg (k H lo la hP hS h)
theorem gx_ior (X : gx_X p R s m args meth c D al cI cJ A own cc nL rt d cells slots) {x y : Int32} (hdg : decode cc pc = .ok (.ior, 1)) (k : gx_G p l e R s m args below meth c Q D al cI cJ A nL cells slots (pc + 1) (ls) (.int (x ||| y) :: st) (g)) : gx_G p l e R s m args below meth c Q D al cI cJ A nL cells slots (pc) (ls) (.int y :: .int x :: st) (g) := fun H lo la hP hS h => lv_ior X.1 X.2.1 hdg (k H lo la hP hS h)
theorem gx_ixor (X : gx_X p R s m args meth c D al cI cJ A own cc nL rt d cells slots) {x y : Int32} (hdg : decode cc pc = .ok (.ixor, 1)) (k : gx_G p l e R s m args below meth c Q D al cI cJ A nL cells slots (pc + 1) (ls) (.int (x ^^^ y) :: st) (g)) : gx_G p l e R s m args below meth c Q D al cI cJ A nL cells slots (pc) (ls) (.int y :: .int x :: st) (g) := fun H lo la hP hS h => lv_ixor X.1 X.2.1 hdg (k H lo la hP hS h)
theorem gx_ishl (X : gx_X p R s m args meth c D al cI cJ A own cc nL rt d cells slots) {x y : Int32} (hdg : decode cc pc = .ok (.ishl, 1)) (k : gx_G p l e R s m args below meth c Q D al cI cJ A nL cells slots (pc + 1) (ls) (.int (shlI x y) :: st) (g)) : gx_G p l e R s m args below meth c Q D al cI cJ A nL cells slots (pc) (ls) (.int y :: .int x :: st) (g) := fun H lo la hP hS h => lv_ishl X.1 X.2.1 hdg (k H lo la hP hS h)
theorem gx_ishr (X : gx_X p R s m args meth c D al cI cJ A own cc nL rt d cells slots) {x y : Int32} (hdg : decode cc pc = .ok (.ishr, 1)) (k : gx_G p l e R s m args below meth c Q D al cI cJ A nL cells slots (pc + 1) (ls) (.int (shrI x y) :: st) (g)) : gx_G p l e R s m args below meth c Q D al cI cJ A nL cells slots (pc) (ls) (.int y :: .int x :: st) (g) := fun H lo la hP hS h => lv_ishr X.1 X.2.1 hdg (k H lo la hP hS h)
theorem gx_idiv (X : gx_X p R s m args meth c D al cI cJ A own cc nL rt d cells slots) {x y : Int32} (hdg : decode cc pc = .ok (.idiv, 1)) (hne : ¬ y = 0) (k : gx_G p l e R s m args below meth c Q D al cI cJ A nL cells slots (pc + 1) (ls) (.int (x / y) :: st) (g)) : gx_G p l e R s m args below meth c Q D al cI cJ A nL cells slots (pc) (ls) (.int y :: .int x :: st) (g) := fun H lo la hP hS h => lv_idiv X.1 X.2.1 hdg hne (k H lo la hP hS h)
theorem gx_irem (X : gx_X p R s m args meth c D al cI cJ A own cc nL rt d cells slots) {x y : Int32} (hdg : decode cc pc = .ok (.irem, 1)) (hne : ¬ y = 0) (k : gx_G p l e R s m args below meth c Q D al cI cJ A nL cells slots (pc + 1) (ls) (.int (rmI x y) :: st) (g)) : gx_G p l e R s m args below meth c Q D al cI cJ A nL cells slots (pc) (ls) (.int y :: .int x :: st) (g) := fun H lo la hP hS h => lv_irem X.1 X.2.1 hdg hne (k H lo la hP hS h)
def usrI (x y : Int32) : Int32 := (x.toUInt32 >>> (y.toUInt32 &&& Int32.toUInt32 31)).toInt32
theorem gx_iushr (X : gx_X p R s m args meth c D al cI cJ A own cc nL rt d cells slots) {x y : Int32} (hdg : decode cc pc = .ok (.iushr, 1)) (k : gx_G p l e R s m args below meth c Q D al cI cJ A nL cells slots (pc + 1) (ls) (.int (usrI x y) :: st) (g)) : gx_G p l e R s m args below meth c Q D al cI cJ A nL cells slots (pc) (ls) (.int y :: .int x :: st) (g) := fun H lo la hP hS h => lv_iushr X.1 X.2.1 hdg rfl (k H lo la hP hS h)
theorem gx_ladd (X : gx_X p R s m args meth c D al cI cJ A own cc nL rt d cells slots) {x y : Int64} (hdg : decode cc pc = .ok (.ladd, 1)) (k : gx_G p l e R s m args below meth c Q D al cI cJ A nL cells slots (pc + 1) (ls) (.long (x + y) :: st) (g)) : gx_G p l e R s m args below meth c Q D al cI cJ A nL cells slots (pc) (ls) (.long y :: .long x :: st) (g) := fun H lo la hP hS h => lv_ladd X.1 X.2.1 hdg (k H lo la hP hS h)
theorem gx_lmul (X : gx_X p R s m args meth c D al cI cJ A own cc nL rt d cells slots) {x y : Int64} (hdg : decode cc pc = .ok (.lmul, 1)) (k : gx_G p l e R s m args below meth c Q D al cI cJ A nL cells slots (pc + 1) (ls) (.long (x * y) :: st) (g)) : gx_G p l e R s m args below meth c Q D al cI cJ A nL cells slots (pc) (ls) (.long y :: .long x :: st) (g) := fun H lo la hP hS h => lv_lmul X.1 X.2.1 hdg (k H lo la hP hS h)
theorem gx_land (X : gx_X p R s m args meth c D al cI cJ A own cc nL rt d cells slots) {x y : Int64} (hdg : decode cc pc = .ok (.land, 1)) (k : gx_G p l e R s m args below meth c Q D al cI cJ A nL cells slots (pc + 1) (ls) (.long (x &&& y) :: st) (g)) : gx_G p l e R s m args below meth c Q D al cI cJ A nL cells slots (pc) (ls) (.long y :: .long x :: st) (g) := fun H lo la hP hS h => lv_land X.1 X.2.1 hdg (k H lo la hP hS h)
theorem gx_lor (X : gx_X p R s m args meth c D al cI cJ A own cc nL rt d cells slots) {x y : Int64} (hdg : decode cc pc = .ok (.lor, 1)) (k : gx_G p l e R s m args below meth c Q D al cI cJ A nL cells slots (pc + 1) (ls) (.long (x ||| y) :: st) (g)) : gx_G p l e R s m args below meth c Q D al cI cJ A nL cells slots (pc) (ls) (.long y :: .long x :: st) (g) := fun H lo la hP hS h => lv_lor X.1 X.2.1 hdg (k H lo la hP hS h)
theorem gx_ldiv (X : gx_X p R s m args meth c D al cI cJ A own cc nL rt d cells slots) {x y : Int64} (hdg : decode cc pc = .ok (.ldiv, 1)) (hne : ¬ y = 0) (k : gx_G p l e R s m args below meth c Q D al cI cJ A nL cells slots (pc + 1) (ls) (.long (x / y) :: st) (g)) : gx_G p l e R s m args below meth c Q D al cI cJ A nL cells slots (pc) (ls) (.long y :: .long x :: st) (g) := fun H lo la hP hS h => lv_ldiv X.1 X.2.1 hdg hne (k H lo la hP hS h)
theorem gx_lrem (X : gx_X p R s m args meth c D al cI cJ A own cc nL rt d cells slots) {x y : Int64} (hdg : decode cc pc = .ok (.lrem, 1)) (hne : ¬ y = 0) (k : gx_G p l e R s m args below meth c Q D al cI cJ A nL cells slots (pc + 1) (ls) (.long (rmL x y) :: st) (g)) : gx_G p l e R s m args below meth c Q D al cI cJ A nL cells slots (pc) (ls) (.long y :: .long x :: st) (g) := fun H lo la hP hS h => lv_lrem X.1 X.2.1 hdg hne (k H lo la hP hS h)
theorem gx_lshl (X : gx_X p R s m args meth c D al cI cJ A own cc nL rt d cells slots) {x : Int64} {y : Int32} (hdg : decode cc pc = .ok (.lshl, 1)) (k : gx_G p l e R s m args below meth c Q D al cI cJ A nL cells slots (pc + 1) (ls) (.long (shlL x y) :: st) (g)) : gx_G p l e R s m args below meth c Q D al cI cJ A nL cells slots (pc) (ls) (.int y :: .long x :: st) (g) := fun H lo la hP hS h => lv_lshl X.1 X.2.1 hdg rfl (k H lo la hP hS h)
theorem gx_lcmp (X : gx_X p R s m args meth c D al cI cJ A own cc nL rt d cells slots) {x y : Int64} (hdg : decode cc pc = .ok (.lcmp, 1)) (k : gx_G p l e R s m args below meth c Q D al cI cJ A nL cells slots (pc + 1) (ls) (.int (lg_cmp x y) :: st) (g)) : gx_G p l e R s m args below meth c Q D al cI cJ A nL cells slots (pc) (ls) (.long y :: .long x :: st) (g) := fun H lo la hP hS h => W.lcmp X.1 X.2.1 hdg (k H lo la hP hS h)
theorem gx_ineg (X : gx_X p R s m args meth c D al cI cJ A own cc nL rt d cells slots) {x : Int32} (hdg : decode cc pc = .ok (.ineg, 1)) (k : gx_G p l e R s m args below meth c Q D al cI cJ A nL cells slots (pc + 1) (ls) (.int (-x) :: st) (g)) : gx_G p l e R s m args below meth c Q D al cI cJ A nL cells slots (pc) (ls) (.int x :: st) (g) := fun H lo la hP hS h => lv_ineg X.1 X.2.1 hdg (k H lo la hP hS h)
theorem gx_i2l (X : gx_X p R s m args meth c D al cI cJ A own cc nL rt d cells slots) {x : Int32} (hdg : decode cc pc = .ok (.i2l, 1)) (k : gx_G p l e R s m args below meth c Q D al cI cJ A nL cells slots (pc + 1) (ls) (.long (x.toInt64) :: st) (g)) : gx_G p l e R s m args below meth c Q D al cI cJ A nL cells slots (pc) (ls) (.int x :: st) (g) := fun H lo la hP hS h => lv_i2l X.1 X.2.1 hdg rfl (k H lo la hP hS h)
theorem gx_l2i (X : gx_X p R s m args meth c D al cI cJ A own cc nL rt d cells slots) {x : Int64} (hdg : decode cc pc = .ok (.l2i, 1)) (k : gx_G p l e R s m args below meth c Q D al cI cJ A nL cells slots (pc + 1) (ls) (.int (x.toInt32) :: st) (g)) : gx_G p l e R s m args below meth c Q D al cI cJ A nL cells slots (pc) (ls) (.long x :: st) (g) := fun H lo la hP hS h => lv_l2i X.1 X.2.1 hdg rfl (k H lo la hP hS h)
theorem gx_i2b (X : gx_X p R s m args meth c D al cI cJ A own cc nL rt d cells slots) {x : Int32} (hdg : decode cc pc = .ok (.i2b, 1)) (k : gx_G p l e R s m args below meth c Q D al cI cJ A nL cells slots (pc + 1) (ls) (.int (x.toInt8.toInt32) :: st) (g)) : gx_G p l e R s m args below meth c Q D al cI cJ A nL cells slots (pc) (ls) (.int x :: st) (g) := fun H lo la hP hS h => lv_i2b X.1 X.2.1 hdg rfl (k H lo la hP hS h)
theorem gx_i2s (X : gx_X p R s m args meth c D al cI cJ A own cc nL rt d cells slots) {x : Int32} (hdg : decode cc pc = .ok (.i2s, 1)) (k : gx_G p l e R s m args below meth c Q D al cI cJ A nL cells slots (pc + 1) (ls) (.int (x.toInt16.toInt32) :: st) (g)) : gx_G p l e R s m args below meth c Q D al cI cJ A nL cells slots (pc) (ls) (.int x :: st) (g) := fun H lo la hP hS h => lv_i2s X.1 X.2.1 hdg rfl (k H lo la hP hS h)
theorem gx_dup (X : gx_X p R s m args meth c D al cI cJ A own cc nL rt d cells slots) {va : Value} (hdg : decode cc pc = .ok (.dup, 1)) (hva : va.category = 1) (k : gx_G p l e R s m args below meth c Q D al cI cJ A nL cells slots (pc + 1) (ls) (va :: va :: st) (g)) : gx_G p l e R s m args below meth c Q D al cI cJ A nL cells slots (pc) (ls) (va :: st) (g) := fun H lo la hP hS h => lv_dup X.1 X.2.1 hdg hva (k H lo la hP hS h)
theorem gx_dup2 (X : gx_X p R s m args meth c D al cI cJ A own cc nL rt d cells slots) {va vb : Value} (hdg : decode cc pc = .ok (.dup2, 1)) (hva : va.category = 1) (hvb : vb.category = 1) (k : gx_G p l e R s m args below meth c Q D al cI cJ A nL cells slots (pc + 1) (ls) (va :: vb :: va :: vb :: st) (g)) : gx_G p l e R s m args below meth c Q D al cI cJ A nL cells slots (pc) (ls) (va :: vb :: st) (g) := fun H lo la hP hS h => lv_dup2_11 X.1 X.2.1 hdg hva hvb (k H lo la hP hS h)
theorem gx_pop (X : gx_X p R s m args meth c D al cI cJ A own cc nL rt d cells slots) {va : Value} (hdg : decode cc pc = .ok (.pop, 1)) (hva : va.category = 1) (k : gx_G p l e R s m args below meth c Q D al cI cJ A nL cells slots (pc + 1) (ls) (st) (g)) : gx_G p l e R s m args below meth c Q D al cI cJ A nL cells slots (pc) (ls) (va :: st) (g) := fun H lo la hP hS h => lv_pop X.1 X.2.1 hdg hva (k H lo la hP hS h)
theorem gx_iconst (X : gx_X p R s m args meth c D al cI cJ A own cc nL rt d cells slots) {n : Int} {v : Int32} (hdg : decode cc pc = .ok (.iconst n, 1)) (hv : Int32.ofInt n = v) (k : gx_G p l e R s m args below meth c Q D al cI cJ A nL cells slots (pc + 1) (ls) (.int v :: st) (g)) : gx_G p l e R s m args below meth c Q D al cI cJ A nL cells slots (pc) (ls) (st) (g) := fun H lo la hP hS h => lv_iconst X.1 X.2.1 hdg hv (k H lo la hP hS h)
theorem gx_bipush (X : gx_X p R s m args meth c D al cI cJ A own cc nL rt d cells slots) {n : Int} {v : Int32} (hdg : decode cc pc = .ok (.bipush n, 2)) (hv : (Int8.ofInt n).toInt32 = v) (k : gx_G p l e R s m args below meth c Q D al cI cJ A nL cells slots (pc + 2) (ls) (.int v :: st) (g)) : gx_G p l e R s m args below meth c Q D al cI cJ A nL cells slots (pc) (ls) (st) (g) := fun H lo la hP hS h => lv_bipush X.1 X.2.1 hdg hv (k H lo la hP hS h)
theorem gx_sipush (X : gx_X p R s m args meth c D al cI cJ A own cc nL rt d cells slots) {n : Int} {v : Int32} (hdg : decode cc pc = .ok (.sipush n, 3)) (hv : (Int16.ofInt n).toInt32 = v) (k : gx_G p l e R s m args below meth c Q D al cI cJ A nL cells slots (pc + 3) (ls) (.int v :: st) (g)) : gx_G p l e R s m args below meth c Q D al cI cJ A nL cells slots (pc) (ls) (st) (g) := fun H lo la hP hS h => lv_sipush X.1 X.2.1 hdg hv (k H lo la hP hS h)
theorem gx_lconst (X : gx_X p R s m args meth c D al cI cJ A own cc nL rt d cells slots) {n : Fin 2} {v : Int64} (hdg : decode cc pc = .ok (.lconst n, 1)) (hv : Int64.ofNat (n : Nat) = v) (k : gx_G p l e R s m args below meth c Q D al cI cJ A nL cells slots (pc + 1) (ls) (.long v :: st) (g)) : gx_G p l e R s m args below meth c Q D al cI cJ A nL cells slots (pc) (ls) (st) (g) := fun H lo la hP hS h => lv_lconst X.1 X.2.1 hdg hv (k H lo la hP hS h)
theorem gx_ldc2 (X : gx_X p R s m args meth c D al cI cJ A own cc nL rt d cells slots) {idx : Nat} {v : Int64} (hc : Cond.constantLong own idx v ∈ gg_l) (hdg : decode cc pc = .ok (.ldc2_w idx, 3)) (k : gx_G p l e R s m args below meth c Q D al cI cJ A nL cells slots (pc + 3) (ls) (.long v :: st) (g)) : gx_G p l e R s m args below meth c Q D al cI cJ A nL cells slots (pc) (ls) (st) (g) := fun H lo la hP hS h => lv_ldc2 X.1 X.2.1 X.2.2.2.1 (X.2.2.2.2.1 _ hc) hdg (k H lo la hP hS h)
theorem gx_ldcw (X : gx_X p R s m args meth c D al cI cJ A own cc nL rt d cells slots) {idx : Nat} {v : Int32} (hc : Cond.constant own idx v ∈ gg_l) (hdg : decode cc pc = .ok (.ldc_w idx, 3)) (k : gx_G p l e R s m args below meth c Q D al cI cJ A nL cells slots (pc + 3) (ls) (.int v :: st) (g)) : gx_G p l e R s m args below meth c Q D al cI cJ A nL cells slots (pc) (ls) (st) (g) := fun H lo la hP hS h => lv_ldcw X.1 X.2.1 X.2.2.2.1 (X.2.2.2.2.1 _ hc) hdg (k H lo la hP hS h)
theorem gx_iload (X : gx_X p R s m args meth c D al cI cJ A own cc nL rt d cells slots) (j : Nat) {i : Nat} {x : Int32} (hj : ls[j]? = some (i, .int x)) (hdg : decode cc pc = .ok (.iload i, 2)) (k : gx_G p l e R s m args below meth c Q D al cI cJ A nL cells slots (pc + 2) (ls) (.int x :: st) (g)) : gx_G p l e R s m args below meth c Q D al cI cJ A nL cells slots (pc) (ls) (st) (g) := fun H lo la hP hS h => lv_iload X.1 X.2.1 hdg (lv_at h j hj) (k H lo la hP hS h)
theorem gx_iload_n (X : gx_X p R s m args meth c D al cI cJ A own cc nL rt d cells slots) (j : Nat) {i : Fin 4} {x : Int32} (hj : ls[j]? = some ((i : Nat), .int x)) (hdg : decode cc pc = .ok (.iload_n i, 1)) (k : gx_G p l e R s m args below meth c Q D al cI cJ A nL cells slots (pc + 1) (ls) (.int x :: st) (g)) : gx_G p l e R s m args below meth c Q D al cI cJ A nL cells slots (pc) (ls) (st) (g) := fun H lo la hP hS h => lv_iload_n X.1 X.2.1 hdg rfl (lv_at h j hj) (k H lo la hP hS h)
theorem gx_lload (X : gx_X p R s m args meth c D al cI cJ A own cc nL rt d cells slots) (j : Nat) {i : Nat} {x : Int64} (hj : ls[j]? = some (i, .long x)) (hdg : decode cc pc = .ok (.lload i, 2)) (k : gx_G p l e R s m args below meth c Q D al cI cJ A nL cells slots (pc + 2) (ls) (.long x :: st) (g)) : gx_G p l e R s m args below meth c Q D al cI cJ A nL cells slots (pc) (ls) (st) (g) := fun H lo la hP hS h => lv_lload X.1 X.2.1 hdg (lv_at h j hj) (k H lo la hP hS h)
theorem gx_lload_n (X : gx_X p R s m args meth c D al cI cJ A own cc nL rt d cells slots) (j : Nat) {i : Fin 4} {x : Int64} (hj : ls[j]? = some ((i : Nat), .long x)) (hdg : decode cc pc = .ok (.lload_n i, 1)) (k : gx_G p l e R s m args below meth c Q D al cI cJ A nL cells slots (pc + 1) (ls) (.long x :: st) (g)) : gx_G p l e R s m args below meth c Q D al cI cJ A nL cells slots (pc) (ls) (st) (g) := fun H lo la hP hS h => lv_lload_n X.1 X.2.1 hdg rfl (lv_at h j hj) (k H lo la hP hS h)
theorem gx_aload (X : gx_X p R s m args meth c D al cI cJ A own cc nL rt d cells slots) (j : Nat) {i : Nat} {x : Nat} (hj : ls[j]? = some (i, .ref x)) (hdg : decode cc pc = .ok (.aload i, 2)) (k : gx_G p l e R s m args below meth c Q D al cI cJ A nL cells slots (pc + 2) (ls) (.ref x :: st) (g)) : gx_G p l e R s m args below meth c Q D al cI cJ A nL cells slots (pc) (ls) (st) (g) := fun H lo la hP hS h => lv_aload X.1 X.2.1 hdg (lv_at h j hj) (k H lo la hP hS h)
theorem gx_aload_n (X : gx_X p R s m args meth c D al cI cJ A own cc nL rt d cells slots) (j : Nat) {i : Fin 4} {x : Nat} (hj : ls[j]? = some ((i : Nat), .ref x)) (hdg : decode cc pc = .ok (.aload_n i, 1)) (k : gx_G p l e R s m args below meth c Q D al cI cJ A nL cells slots (pc + 1) (ls) (.ref x :: st) (g)) : gx_G p l e R s m args below meth c Q D al cI cJ A nL cells slots (pc) (ls) (st) (g) := fun H lo la hP hS h => lv_aload_n X.1 X.2.1 hdg rfl (lv_at h j hj) (k H lo la hP hS h)
theorem gx_istore (X : gx_X p R s m args meth c D al cI cJ A own cc nL rt d cells slots) (ls' : List (Nat × Value)) {i : Nat} {x : Int32} (hdg : decode cc pc = .ok (.istore i, 2)) (hn : i < nL) (hl : (i, Value.int x) :: ls.filter (fun q => !(q.1 == i) && !(q.1 + 1 == i && q.2.category == 2)) = ls') (k : gx_G p l e R s m args below meth c Q D al cI cJ A nL cells slots (pc + 2) (ls') (st) (g)) : gx_G p l e R s m args below meth c Q D al cI cJ A nL cells slots (pc) (ls) (.int x :: st) (g) := fun H lo la hP hS h => lv_istore X.1 X.2.1 hdg h hn hl (fun la h => k H lo la hP hS h)
theorem gx_istore_n (X : gx_X p R s m args meth c D al cI cJ A own cc nL rt d cells slots) (ls' : List (Nat × Value)) {i : Fin 4} {x : Int32} (hdg : decode cc pc = .ok (.istore_n i, 1)) (hn : (i : Nat) < nL) (hl : ((i : Nat), Value.int x) :: ls.filter (fun q => !(q.1 == (i : Nat)) && !(q.1 + 1 == (i : Nat) && q.2.category == 2)) = ls') (k : gx_G p l e R s m args below meth c Q D al cI cJ A nL cells slots (pc + 1) (ls') (st) (g)) : gx_G p l e R s m args below meth c Q D al cI cJ A nL cells slots (pc) (ls) (.int x :: st) (g) := fun H lo la hP hS h => lv_istore_n X.1 X.2.1 hdg rfl h hn hl (fun la h => k H lo la hP hS h)
theorem gx_lstore (X : gx_X p R s m args meth c D al cI cJ A own cc nL rt d cells slots) (ls' : List (Nat × Value)) {i : Nat} {x : Int64} (hdg : decode cc pc = .ok (.lstore i, 2)) (hn : i + 1 < nL) (hl : (i, Value.long x) :: ls.filter (fun q => !(q.1 == i) && (!(q.1 == i + 1) && !(q.1 + 1 == i && q.2.category == 2))) = ls') (k : gx_G p l e R s m args below meth c Q D al cI cJ A nL cells slots (pc + 2) (ls') (st) (g)) : gx_G p l e R s m args below meth c Q D al cI cJ A nL cells slots (pc) (ls) (.long x :: st) (g) := fun H lo la hP hS h => lv_lstore X.1 X.2.1 hdg h hn hl (fun la h => k H lo la hP hS h)
theorem gx_lstore_n (X : gx_X p R s m args meth c D al cI cJ A own cc nL rt d cells slots) (ls' : List (Nat × Value)) {i : Fin 4} {x : Int64} (hdg : decode cc pc = .ok (.lstore_n i, 1)) (hn : (i : Nat) + 1 < nL) (hl : ((i : Nat), Value.long x) :: ls.filter (fun q => !(q.1 == (i : Nat)) && (!(q.1 == (i : Nat) + 1) && !(q.1 + 1 == (i : Nat) && q.2.category == 2))) = ls') (k : gx_G p l e R s m args below meth c Q D al cI cJ A nL cells slots (pc + 1) (ls') (st) (g)) : gx_G p l e R s m args below meth c Q D al cI cJ A nL cells slots (pc) (ls) (.long x :: st) (g) := fun H lo la hP hS h => lv_lstore_n X.1 X.2.1 hdg rfl h hn hl (fun la h => k H lo la hP hS h)
theorem gx_astore (X : gx_X p R s m args meth c D al cI cJ A own cc nL rt d cells slots) (ls' : List (Nat × Value)) {i : Nat} {x : Nat} (hdg : decode cc pc = .ok (.astore i, 2)) (hn : i < nL) (hl : (i, Value.ref x) :: ls.filter (fun q => !(q.1 == i) && !(q.1 + 1 == i && q.2.category == 2)) = ls') (k : gx_G p l e R s m args below meth c Q D al cI cJ A nL cells slots (pc + 2) (ls') (st) (g)) : gx_G p l e R s m args below meth c Q D al cI cJ A nL cells slots (pc) (ls) (.ref x :: st) (g) := fun H lo la hP hS h => lv_astore X.1 X.2.1 hdg h hn hl (fun la h => k H lo la hP hS h)
theorem gx_astore_n (X : gx_X p R s m args meth c D al cI cJ A own cc nL rt d cells slots) (ls' : List (Nat × Value)) {i : Fin 4} {x : Nat} (hdg : decode cc pc = .ok (.astore_n i, 1)) (hn : (i : Nat) < nL) (hl : ((i : Nat), Value.ref x) :: ls.filter (fun q => !(q.1 == (i : Nat)) && !(q.1 + 1 == (i : Nat) && q.2.category == 2)) = ls') (k : gx_G p l e R s m args below meth c Q D al cI cJ A nL cells slots (pc + 1) (ls') (st) (g)) : gx_G p l e R s m args below meth c Q D al cI cJ A nL cells slots (pc) (ls) (.ref x :: st) (g) := fun H lo la hP hS h => lv_astore_n X.1 X.2.1 hdg rfl h hn hl (fun la h => k H lo la hP hS h)
theorem gx_iinc (X : gx_X p R s m args meth c D al cI cJ A own cc nL rt d cells slots) (ls' : List (Nat × Value)) (j : Nat) {i : Nat} {n : Int} {x v : Int32} (hdg : decode cc pc = .ok (.iinc i n, 3)) (hj : ls[j]? = some (i, .int x)) (hv : x + Int32.ofInt n = v) (hn : i < nL) (hl : (i, Value.int v) :: ls.filter (fun q => !(q.1 == i) && !(q.1 + 1 == i && q.2.category == 2)) = ls') (k : gx_G p l e R s m args below meth c Q D al cI cJ A nL cells slots (pc + 3) (ls') (st) (g)) : gx_G p l e R s m args below meth c Q D al cI cJ A nL cells slots (pc) (ls) (st) (g) := fun H lo la hP hS h => lv_iinc X.1 X.2.1 hdg h hj hv hn hl (fun la h => k H lo la hP hS h)
theorem gx_goto (X : gx_X p R s m args meth c D al cI cJ A own cc nL rt d cells slots) (tgt : Nat) {off : Int} (hdg : decode cc pc = .ok (.goto off, 3)) (ht : (pc : Int) + off = (tgt : Int)) (k : gx_G p l e R s m args below meth c Q D al cI cJ A nL cells slots (tgt) (ls) (st) (g)) : gx_G p l e R s m args below meth c Q D al cI cJ A nL cells slots (pc) (ls) (st) (g) := fun H lo la hP hS h => lv_goto X.1 X.2.1 hdg ht (k H lo la hP hS h)
theorem gx_if_eq (X : gx_X p R s m args meth c D al cI cJ A own cc nL rt d cells slots) (tgt : Nat) {x : Int32} {off : Int} (hdg : decode cc pc = .ok (.ifCond .eq off, 3)) (ht : (pc : Int) + off = (tgt : Int)) (kt : x = 0 → gx_G p l e R s m args below meth c Q D al cI cJ A nL cells slots (tgt) (ls) (st) (g)) (kf : ¬ x = 0 → gx_G p l e R s m args below meth c Q D al cI cJ A nL cells slots (pc + 3) (ls) (st) (g)) : gx_G p l e R s m args below meth c Q D al cI cJ A nL cells slots (pc) (ls) (.int x :: st) (g) := fun H lo la hP hS h => lv_if_eq X.1 X.2.1 hdg ht (fun q => kt q H lo la hP hS h) (fun q => kf q H lo la hP hS h)
theorem gx_icmp_eq (X : gx_X p R s m args meth c D al cI cJ A own cc nL rt d cells slots) (tgt : Nat) {x y : Int32} {off : Int} (hdg : decode cc pc = .ok (.if_icmp .eq off, 3)) (ht : (pc : Int) + off = (tgt : Int)) (kt : x = y → gx_G p l e R s m args below meth c Q D al cI cJ A nL cells slots (tgt) (ls) (st) (g)) (kf : ¬ x = y → gx_G p l e R s m args below meth c Q D al cI cJ A nL cells slots (pc + 3) (ls) (st) (g)) : gx_G p l e R s m args below meth c Q D al cI cJ A nL cells slots (pc) (ls) (.int y :: .int x :: st) (g) := fun H lo la hP hS h => lv_icmp_eq X.1 X.2.1 hdg ht (fun q => kt q H lo la hP hS h) (fun q => kf q H lo la hP hS h)
theorem gx_if_ne (X : gx_X p R s m args meth c D al cI cJ A own cc nL rt d cells slots) (tgt : Nat) {x : Int32} {off : Int} (hdg : decode cc pc = .ok (.ifCond .ne off, 3)) (ht : (pc : Int) + off = (tgt : Int)) (kt : ¬ x = 0 → gx_G p l e R s m args below meth c Q D al cI cJ A nL cells slots (tgt) (ls) (st) (g)) (kf : x = 0 → gx_G p l e R s m args below meth c Q D al cI cJ A nL cells slots (pc + 3) (ls) (st) (g)) : gx_G p l e R s m args below meth c Q D al cI cJ A nL cells slots (pc) (ls) (.int x :: st) (g) := fun H lo la hP hS h => lv_if_ne X.1 X.2.1 hdg ht (fun q => kt q H lo la hP hS h) (fun q => kf q H lo la hP hS h)
theorem gx_icmp_ne (X : gx_X p R s m args meth c D al cI cJ A own cc nL rt d cells slots) (tgt : Nat) {x y : Int32} {off : Int} (hdg : decode cc pc = .ok (.if_icmp .ne off, 3)) (ht : (pc : Int) + off = (tgt : Int)) (kt : ¬ x = y → gx_G p l e R s m args below meth c Q D al cI cJ A nL cells slots (tgt) (ls) (st) (g)) (kf : x = y → gx_G p l e R s m args below meth c Q D al cI cJ A nL cells slots (pc + 3) (ls) (st) (g)) : gx_G p l e R s m args below meth c Q D al cI cJ A nL cells slots (pc) (ls) (.int y :: .int x :: st) (g) := fun H lo la hP hS h => lv_icmp_ne X.1 X.2.1 hdg ht (fun q => kt q H lo la hP hS h) (fun q => kf q H lo la hP hS h)
theorem gx_if_lt (X : gx_X p R s m args meth c D al cI cJ A own cc nL rt d cells slots) (tgt : Nat) {x : Int32} {off : Int} (hdg : decode cc pc = .ok (.ifCond .lt off, 3)) (ht : (pc : Int) + off = (tgt : Int)) (kt : x < 0 → gx_G p l e R s m args below meth c Q D al cI cJ A nL cells slots (tgt) (ls) (st) (g)) (kf : ¬ x < 0 → gx_G p l e R s m args below meth c Q D al cI cJ A nL cells slots (pc + 3) (ls) (st) (g)) : gx_G p l e R s m args below meth c Q D al cI cJ A nL cells slots (pc) (ls) (.int x :: st) (g) := fun H lo la hP hS h => lv_if_lt X.1 X.2.1 hdg ht (fun q => kt q H lo la hP hS h) (fun q => kf q H lo la hP hS h)
theorem gx_icmp_lt (X : gx_X p R s m args meth c D al cI cJ A own cc nL rt d cells slots) (tgt : Nat) {x y : Int32} {off : Int} (hdg : decode cc pc = .ok (.if_icmp .lt off, 3)) (ht : (pc : Int) + off = (tgt : Int)) (kt : x < y → gx_G p l e R s m args below meth c Q D al cI cJ A nL cells slots (tgt) (ls) (st) (g)) (kf : ¬ x < y → gx_G p l e R s m args below meth c Q D al cI cJ A nL cells slots (pc + 3) (ls) (st) (g)) : gx_G p l e R s m args below meth c Q D al cI cJ A nL cells slots (pc) (ls) (.int y :: .int x :: st) (g) := fun H lo la hP hS h => lv_icmp_lt X.1 X.2.1 hdg ht (fun q => kt q H lo la hP hS h) (fun q => kf q H lo la hP hS h)
theorem gx_if_ge (X : gx_X p R s m args meth c D al cI cJ A own cc nL rt d cells slots) (tgt : Nat) {x : Int32} {off : Int} (hdg : decode cc pc = .ok (.ifCond .ge off, 3)) (ht : (pc : Int) + off = (tgt : Int)) (kt : 0 ≤ x → gx_G p l e R s m args below meth c Q D al cI cJ A nL cells slots (tgt) (ls) (st) (g)) (kf : ¬ 0 ≤ x → gx_G p l e R s m args below meth c Q D al cI cJ A nL cells slots (pc + 3) (ls) (st) (g)) : gx_G p l e R s m args below meth c Q D al cI cJ A nL cells slots (pc) (ls) (.int x :: st) (g) := fun H lo la hP hS h => lv_if_ge X.1 X.2.1 hdg ht (fun q => kt q H lo la hP hS h) (fun q => kf q H lo la hP hS h)
theorem gx_icmp_ge (X : gx_X p R s m args meth c D al cI cJ A own cc nL rt d cells slots) (tgt : Nat) {x y : Int32} {off : Int} (hdg : decode cc pc = .ok (.if_icmp .ge off, 3)) (ht : (pc : Int) + off = (tgt : Int)) (kt : y ≤ x → gx_G p l e R s m args below meth c Q D al cI cJ A nL cells slots (tgt) (ls) (st) (g)) (kf : ¬ y ≤ x → gx_G p l e R s m args below meth c Q D al cI cJ A nL cells slots (pc + 3) (ls) (st) (g)) : gx_G p l e R s m args below meth c Q D al cI cJ A nL cells slots (pc) (ls) (.int y :: .int x :: st) (g) := fun H lo la hP hS h => lv_icmp_ge X.1 X.2.1 hdg ht (fun q => kt q H lo la hP hS h) (fun q => kf q H lo la hP hS h)
theorem gx_if_gt (X : gx_X p R s m args meth c D al cI cJ A own cc nL rt d cells slots) (tgt : Nat) {x : Int32} {off : Int} (hdg : decode cc pc = .ok (.ifCond .gt off, 3)) (ht : (pc : Int) + off = (tgt : Int)) (kt : 0 < x → gx_G p l e R s m args below meth c Q D al cI cJ A nL cells slots (tgt) (ls) (st) (g)) (kf : ¬ 0 < x → gx_G p l e R s m args below meth c Q D al cI cJ A nL cells slots (pc + 3) (ls) (st) (g)) : gx_G p l e R s m args below meth c Q D al cI cJ A nL cells slots (pc) (ls) (.int x :: st) (g) := fun H lo la hP hS h => lv_if_gt X.1 X.2.1 hdg ht (fun q => kt q H lo la hP hS h) (fun q => kf q H lo la hP hS h)
theorem gx_icmp_gt (X : gx_X p R s m args meth c D al cI cJ A own cc nL rt d cells slots) (tgt : Nat) {x y : Int32} {off : Int} (hdg : decode cc pc = .ok (.if_icmp .gt off, 3)) (ht : (pc : Int) + off = (tgt : Int)) (kt : y < x → gx_G p l e R s m args below meth c Q D al cI cJ A nL cells slots (tgt) (ls) (st) (g)) (kf : ¬ y < x → gx_G p l e R s m args below meth c Q D al cI cJ A nL cells slots (pc + 3) (ls) (st) (g)) : gx_G p l e R s m args below meth c Q D al cI cJ A nL cells slots (pc) (ls) (.int y :: .int x :: st) (g) := fun H lo la hP hS h => lv_icmp_gt X.1 X.2.1 hdg ht (fun q => kt q H lo la hP hS h) (fun q => kf q H lo la hP hS h)
theorem gx_if_le (X : gx_X p R s m args meth c D al cI cJ A own cc nL rt d cells slots) (tgt : Nat) {x : Int32} {off : Int} (hdg : decode cc pc = .ok (.ifCond .le off, 3)) (ht : (pc : Int) + off = (tgt : Int)) (kt : x ≤ 0 → gx_G p l e R s m args below meth c Q D al cI cJ A nL cells slots (tgt) (ls) (st) (g)) (kf : ¬ x ≤ 0 → gx_G p l e R s m args below meth c Q D al cI cJ A nL cells slots (pc + 3) (ls) (st) (g)) : gx_G p l e R s m args below meth c Q D al cI cJ A nL cells slots (pc) (ls) (.int x :: st) (g) := fun H lo la hP hS h => lv_if_le X.1 X.2.1 hdg ht (fun q => kt q H lo la hP hS h) (fun q => kf q H lo la hP hS h)
theorem gx_icmp_le (X : gx_X p R s m args meth c D al cI cJ A own cc nL rt d cells slots) (tgt : Nat) {x y : Int32} {off : Int} (hdg : decode cc pc = .ok (.if_icmp .le off, 3)) (ht : (pc : Int) + off = (tgt : Int)) (kt : x ≤ y → gx_G p l e R s m args below meth c Q D al cI cJ A nL cells slots (tgt) (ls) (st) (g)) (kf : ¬ x ≤ y → gx_G p l e R s m args below meth c Q D al cI cJ A nL cells slots (pc + 3) (ls) (st) (g)) : gx_G p l e R s m args below meth c Q D al cI cJ A nL cells slots (pc) (ls) (.int y :: .int x :: st) (g) := fun H lo la hP hS h => lv_icmp_le X.1 X.2.1 hdg ht (fun q => kt q H lo la hP hS h) (fun q => kf q H lo la hP hS h)
theorem gx_tab {dflt lo_ hi : Int} {offs : Array Int} {len : Nat} {x : Int32} (tgt : Nat) {off : Int} (X : gx_X p R s m args meth c D al cI cJ A own cc nL rt d cells slots) (hdg : decode cc pc = .ok (.tableswitch dflt lo_ hi offs, len)) (h1 : ¬ x.toInt < lo_) (h2 : ¬ hi < x.toInt) (ho : offs[(x.toInt - lo_).toNat]? = some off) (ht : (pc : Int) + off = (tgt : Int)) (k : gx_G p l e R s m args below meth c Q D al cI cJ A nL cells slots (tgt) (ls) (st) (g)) : gx_G p l e R s m args below meth c Q D al cI cJ A nL cells slots (pc) (ls) (.int x :: st) (g) := fun H lo la hP hS h => lv_tableIn X.1 X.2.1 hdg h1 h2 ho ht (k H lo la hP hS h)
theorem gx_tabO {dflt lo_ hi : Int} {offs : Array Int} {len : Nat} {x : Int32} (tgt : Nat) (X : gx_X p R s m args meth c D al cI cJ A own cc nL rt d cells slots) (hdg : decode cc pc = .ok (.tableswitch dflt lo_ hi offs, len)) (h1 : x.toInt < lo_ ∨ hi < x.toInt) (ht : (pc : Int) + dflt = (tgt : Int)) (k : gx_G p l e R s m args below meth c Q D al cI cJ A nL cells slots (tgt) (ls) (st) (g)) : gx_G p l e R s m args below meth c Q D al cI cJ A nL cells slots (pc) (ls) (.int x :: st) (g) := fun H lo la hP hS h => lv_tableOut X.1 X.2.1 hdg h1 ht (k H lo la hP hS h)
theorem gx_look {dflt : Int} {ps : Array (Int × Int)} {len : Nat} {x : Int32} {off : Int} (tgt : Nat) (X : gx_X p R s m args meth c D al cI cJ A own cc nL rt d cells slots) (hdg : decode cc pc = .ok (.lookupswitch dflt ps, len)) (hp : (ps.toList.zip (ps.toList.drop 1)).all (fun (a, next) => a.1 < next.1) = true) (ho : Op.lookupswitch.offset ps.toList dflt x.toInt = off) (ht : (pc : Int) + off = (tgt : Int)) (k : gx_G p l e R s m args below meth c Q D al cI cJ A nL cells slots (tgt) (ls) (st) (g)) : gx_G p l e R s m args below meth c Q D al cI cJ A nL cells slots (pc) (ls) (.int x :: st) (g) := fun H lo la hP hS h => lv_lookup X.1 X.2.1 hdg hp ho ht (k H lo la hP hS h)
/-! fields and rows -/
theorem gx_getf (X : gx_X p R s m args meth c D al cI cJ A own cc nL rt d cells slots) (id : Nat) {ci idx k : Nat} {fs : List Value} {v : Value} (hL : gx_f own idx ci k) (hid : id < 63) (hc : cellE al cI cJ id (g.1 id) (g.2 id) = .inr (ci, fs)) (hv : fs[k]? = some v) (hdg : decode cc pc = .ok (.getfield idx, 3)) (kk : gx_G p l e R s m args below meth c Q D al cI cJ A nL cells slots (pc + 3) (ls) (v :: st) (g)) : gx_G p l e R s m args below meth c Q D al cI cJ A nL cells slots (pc) (ls) (.ref (al id) :: st) (g) := by
  intro H lo la hP hS h
  obtain ⟨C, T, N, h1, h2, h3, h4⟩ := hL
  exact va_get X.1 X.2.1 X.2.2.2.2.1 h2 X.2.2.2.1 X.2.2.2.2.2.1 hP id (wld_is hid hc) h1 k h3 (X.2.2.2.2.1 _ h4) (fun _ q => q) hv hdg (kk H lo la hP hS h)
theorem gx_getn (X : gx_X p R s m args meth c D al cI cJ A own cc nL rt d cells slots) (id : Nat) {ci idx k : Nat} {fs : List Value} {v : Value} (hL : gx_fn own idx ci k) (hid : id < 63) (hc : cellE al cI cJ id (g.1 id) (g.2 id) = .inr (ci, fs)) (hv : fs[k]? = some v) (hdg : decode cc pc = .ok (.getfield idx, 3)) (kk : gx_G p l e R s m args below meth c Q D al cI cJ A nL cells slots (pc + 3) (ls) (v :: st) (g)) : gx_G p l e R s m args below meth c Q D al cI cJ A nL cells slots (pc) (ls) (.ref (al id) :: st) (g) := by
  intro H lo la hP hS h
  obtain ⟨C, T, N, host, h1, h2, h3, h4⟩ := hL
  exact va_getN X.1 X.2.1 X.2.2.2.2.1 h2 X.2.2.2.1 X.2.2.2.2.2.1 hP id (wld_is hid hc) h1 k h3 (va_Nw.use rfl (X.2.2.2.2.2.2.1.2.1 _ h4)) (fun _ q => q) hv hdg (kk H lo la hP hS h)

theorem gx_putf (X : gx_X p R s m args meth c D al cI cJ A own cc nL rt d cells slots) (id : Nat) {ci idx k : Nat} {fs : List Value} {v : Value} {ty : FieldType} (w : Int32) (hL : gx_f own idx ci k) (hp : gx_p ci k ty) (hid : id < 63) (hc : cellE al cI cJ id (g.1 id) (g.2 id) = .inr (ci, fs)) (hl : k < fs.length) (hn : narrow ty v = v) (hf : fits ty v = true) (hw : cellE al cI cJ id (up_f (g.1 id) k w) (g.2 id) = .inr (ci, fs.set k v)) (hdg : decode cc pc = .ok (.putfield idx, 3)) (kk : gx_G p l e R s m args below meth c Q D al cI cJ A nL cells slots (pc + 3) (ls) (st) (wrI g id k w)) : gx_G p l e R s m args below meth c Q D al cI cJ A nL cells slots (pc) (ls) (v :: .ref (al id) :: st) (g) := by
  intro H lo la hP hS h
  obtain ⟨C, T, N,  h1, h2, h3, h4⟩ := hL
  obtain ⟨C', T', N', tyf, e1, e2, e3, e4, e5⟩ := hp
  cases h1.symm.trans e1
  refine va_put X.1 X.2.1 X.2.2.2.2.1 h2 tyf e2 e3 X.2.2.2.1 X.2.2.2.2.2.1 hP X.2.2.2.2.2.2.2.2.2.2.1.D hS id (wld_is hid hc) h1 k h3 (X.2.2.2.2.1 _ h4) (fun _ q => q) e4 e5 hn hf hl hdg fun H1 lo1 hP1 _ hS1 => ?_
  refine kk H1 lo1 la ?_ hS1 h
  rw [wld_set (g := g) (g' := wrI g id k w) hid (by simp only [wrI, up_f, if_true]; exact hw) (fun j hj => by simp [wrI, up_f, hj]) (fun j hj => rfl)] at hP1
  exact hP1

theorem gx_putn (X : gx_X p R s m args meth c D al cI cJ A own cc nL rt d cells slots) (id : Nat) {ci idx k : Nat} {fs : List Value} {v : Value} {ty : FieldType} (w : Int32) (hL : gx_fn own idx ci k) (hp : gx_p ci k ty) (hid : id < 63) (hc : cellE al cI cJ id (g.1 id) (g.2 id) = .inr (ci, fs)) (hl : k < fs.length) (hn : narrow ty v = v) (hf : fits ty v = true) (hw : cellE al cI cJ id (up_f (g.1 id) k w) (g.2 id) = .inr (ci, fs.set k v)) (hdg : decode cc pc = .ok (.putfield idx, 3)) (kk : gx_G p l e R s m args below meth c Q D al cI cJ A nL cells slots (pc + 3) (ls) (st) (wrI g id k w)) : gx_G p l e R s m args below meth c Q D al cI cJ A nL cells slots (pc) (ls) (v :: .ref (al id) :: st) (g) := by
  intro H lo la hP hS h
  obtain ⟨C, T, N, host, h1, h2, h3, h4⟩ := hL
  obtain ⟨C', T', N', tyf, e1, e2, e3, e4, e5⟩ := hp
  cases h1.symm.trans e1
  refine va_putN X.1 X.2.1 X.2.2.2.2.1 h2 tyf e2 e3 X.2.2.2.1 X.2.2.2.2.2.1 hP X.2.2.2.2.2.2.2.2.2.2.1.D hS id (wld_is hid hc) h1 k h3 (va_Nw.use rfl (X.2.2.2.2.2.2.1.2.1 _ h4)) (fun _ q => q) e4 e5 hn hf hl hdg fun H1 lo1 hP1 _ hS1 => ?_
  refine kk H1 lo1 la ?_ hS1 h
  rw [wld_set (g := g) (g' := wrI g id k w) hid (by simp only [wrI, up_f, if_true]; exact hw) (fun j hj => by simp [wrI, up_f, hj]) (fun j hj => rfl)] at hP1
  exact hP1

theorem gx_iald (X : gx_X p R s m args meth c D al cI cJ A own cc nL rt d cells slots) (id n : Nat) {i : Int32} (hid : id < 63) (hc : cellE al cI cJ id (g.1 id) (g.2 id) = .inl (cI, n, .inl (g.1 id))) (hi : ixo i n = true) (hdg : decode cc pc = .ok (.iaload, 1)) (kk : gx_G p l e R s m args below meth c Q D al cI cJ A nL cells slots (pc + 1) (ls) (.int (rdI g id i.toNatClampNeg) :: st) (g)) : gx_G p l e R s m args below meth c Q D al cI cJ A nL cells slots (pc) (ls) (.int i :: .ref (al id) :: st) (g) := by
  intro H lo la hP hS h
  exact va_iald X.1 X.2.1 X.2.2.2.2.2.1 hP id 0 (wld_is hid hc) rfl (ixo_in hi) hdg (kk H lo la hP hS h)

theorem gx_lald (X : gx_X p R s m args meth c D al cI cJ A own cc nL rt d cells slots) (id n : Nat) {i : Int32} (hid : id < 63) (hc : cellE al cI cJ id (g.1 id) (g.2 id) = .inl (cJ, n, .inr (.inl (g.2 id)))) (hi : ixo i n = true) (hdg : decode cc pc = .ok (.laload, 1)) (kk : gx_G p l e R s m args below meth c Q D al cI cJ A nL cells slots (pc + 1) (ls) (.long (rdL g id i.toNatClampNeg) :: st) (g)) : gx_G p l e R s m args below meth c Q D al cI cJ A nL cells slots (pc) (ls) (.int i :: .ref (al id) :: st) (g) := by
  intro H lo la hP hS h
  exact va_lald X.1 X.2.1 X.2.2.2.2.2.1 hP id 1 (wld_is hid hc) rfl (ixo_in hi) hdg (kk H lo la hP hS h)

theorem gx_iast (X : gx_X p R s m args meth c D al cI cJ A own cc nL rt d cells slots) (id n : Nat) {i v : Int32} (hid : id < 63) (hc : ∀ r, cellE al cI cJ id r (g.2 id) = .inl (cI, n, .inl r)) (hi : ixo i n = true) (hdg : decode cc pc = .ok (.iastore, 1)) (kk : gx_G p l e R s m args below meth c Q D al cI cJ A nL cells slots (pc + 1) (ls) (st) (wrI g id i.toNatClampNeg v)) : gx_G p l e R s m args below meth c Q D al cI cJ A nL cells slots (pc) (ls) (.int v :: .int i :: .ref (al id) :: st) (g) := by
  intro H lo la hP hS h
  refine va_iast X.1 X.2.1 X.2.2.2.2.2.1 hP X.2.2.2.2.2.2.2.2.2.2.1.D hS id 0 (wld_is hid (hc (g.1 id))) rfl (ixo_in hi) hdg fun H1 lo1 hP1 _ hS1 => ?_
  refine kk H1 lo1 la ?_ hS1 h
  rw [wld_set (g := g) (g' := wrI g id i.toNatClampNeg v) hid (by simp only [wrI, up_f, if_true]; exact hc _) (fun j hj => by simp [wrI, up_f, hj]) (fun j hj => rfl)] at hP1
  exact hP1

theorem gx_last (X : gx_X p R s m args meth c D al cI cJ A own cc nL rt d cells slots) (id n : Nat) {i : Int32} {v : Int64} (hid : id < 63) (hc : ∀ r, cellE al cI cJ id (g.1 id) r = .inl (cJ, n, .inr (.inl r))) (hi : ixo i n = true) (hdg : decode cc pc = .ok (.lastore, 1)) (kk : gx_G p l e R s m args below meth c Q D al cI cJ A nL cells slots (pc + 1) (ls) (st) (wrL g id i.toNatClampNeg v)) : gx_G p l e R s m args below meth c Q D al cI cJ A nL cells slots (pc) (ls) (.long v :: .int i :: .ref (al id) :: st) (g) := by
  intro H lo la hP hS h
  refine va_last X.1 X.2.1 X.2.2.2.2.2.1 hP X.2.2.2.2.2.2.2.2.2.2.1.D hS id 1 (wld_is hid (hc (g.2 id))) rfl (ixo_in hi) hdg fun H1 lo1 hP1 _ hS1 => ?_
  refine kk H1 lo1 la ?_ hS1 h
  rw [wld_set (g := g) (g' := wrL g id i.toNatClampNeg v) hid (by simp only [wrL, up_f, if_true]; exact hc _) (fun j hj => rfl) (fun j hj => by simp [wrL, up_f, hj])] at hP1
  exact hP1

/-! ends -/
theorem gx_iret {ls : List (Nat × Value)} {v : Int32} {ty : FieldType} (X : gx_X p R s m args meth c D al cI cJ A own cc nL (some ty) d 0 0) (hn : narrow ty (.int v) = .int v) (hdg : decode cc pc = .ok (.ireturn, 1)) : gx_G p l e R s m args below meth c (gx_Q below args s D al cI cJ A (some (.int v)) g) D al cI cJ A nL 0 0 pc ls [.int v] g := fun H lo la hP hS h =>
  W.zret X.1 X.2.1 X.2.2.2.2.2.2.2.2.2.2.2.1 hn (fun t ht hW => ⟨⟨rfl, by rw [ht]; exact hP, va_K.moved hW.alike X.2.2.2.2.2.1⟩, hS.F ht⟩) hS.2.2 hdg X.2.2.2.2.2.2.2.2.2.2.2.2
theorem gx_lret {ls : List (Nat × Value)} {v : Int64} (X : gx_X p R s m args meth c D al cI cJ A own cc nL (some .long) d 0 0) (hdg : decode cc pc = .ok (.lreturn, 1)) : gx_G p l e R s m args below meth c (gx_Q below args s D al cI cJ A (some (.long v)) g) D al cI cJ A nL 0 0 pc ls [.long v] g := fun H lo la hP hS h =>
  W.lret X.1 X.2.1 X.2.2.2.2.2.2.2.2.2.2.2.1 (fun t ht hW => ⟨⟨rfl, by rw [ht]; exact hP, va_K.moved hW.alike X.2.2.2.2.2.1⟩, hS.F ht⟩) hS.2.2 hdg X.2.2.2.2.2.2.2.2.2.2.2.2
theorem gx_vret {ls : List (Nat × Value)} (X : gx_X p R s m args meth c D al cI cJ A own cc nL none d 0 0) (hdg : decode cc pc = .ok (.return_, 1)) : gx_G p l e R s m args below meth c (gx_Q below args s D al cI cJ A none g) D al cI cJ A nL 0 0 pc ls [] g := fun H lo la hP hS h =>
  W.vret X.1 X.2.1 X.2.2.2.2.2.2.2.2.2.2.2.1 (fun t ht hW => ⟨⟨rfl, by rw [ht]; exact hP, va_K.moved hW.alike X.2.2.2.2.2.1⟩, hS.F ht⟩) hS.2.2 hdg X.2.2.2.2.2.2.2.2.2.2.2.2

/-! calls -/
theorem gx_pre {H : Heap} {lo : List Loc} (X : gx_X p R s m args meth c D al cI cJ A own cc nL rt d cells slots) (hP : va_P D classes (wld al cI cJ g) H) (hS : va_S A s.heap H lo) : ∀ U : State, U.heap = H → s.WarmedH U.vm → U.heap.size = H.size ∧ va_P D classes (wld al cI cJ g) U.heap ∧ va_K D classes (tysW cI cJ) U ∧ gx_Dj al (fun _ => True) ∧ gx_A al (aw_ al H.size) U U.heap := by
  intro U hU hW
  obtain ⟨-, -, -, -, -, hK, hAx, -, -, hA, hDj, -, -⟩ := X
  subst hU
  refine ⟨rfl, hP, va_K.moved hW.alike hK, ⟨hDj.1, fun _ _ => trivial⟩, hAx.warm hW (fun a h1 h2 => hS.2.1 a h1 h2) fun q h => ?_⟩
  rcases h with ⟨k, h1, rfl⟩ | h
  · exact hDj.2 k h1
  · exact hA q (Nat.le_trans hS.1 h)
theorem gx_blind {av : List Value} {sz : Nat} : FrameBlind (va_Pc av (fun U => U.heap.size = sz ∧ va_P D classes (wld al cI cJ g) U.heap ∧ va_K D classes (tysW cI cJ) U ∧ gx_Dj al (fun _ => True) ∧ gx_A al (aw_ al sz) U U.heap)) := by
  intro a U f mk q
  obtain ⟨q0, q1, q2, q3, q4, q5⟩ := q
  exact ⟨q0, q1, q2, va_K.moved (u := U) (U := U.calling f mk a) (Vm.Alike.refl U.vm) q3, q4, gx_A.same (u := U) (U := U.calling f mk a) q5 rfl⟩
theorem gx_back {H : Heap} {lo : List Loc} {la : Array Slot} {r : Option Value} {g2 : Mm} {rest st0 : List Value} (X : gx_X p R s m args meth c D al cI cJ A own cc nL rt d cells slots) (hP : va_P D classes (wld al cI cJ g) H) (hS : va_S A s.heap H lo) (h : lv_has la nL ls)
    (hr : va_Run p l e R s m args below meth c H lo cells slots 0 0 (F0 m pc la st0) rest (fun st o t => (o = .returned r ∧ va_P D classes (wld al cI cJ g2) t.heap ∧ va_K D classes (tysW cI cJ) t) ∧ va_F (aw_ al H.size) st t) (aw_ al H.size))
    (kk : gx_G p l e R s m args below meth c Q D al cI cJ A nL cells slots (pc + 3) ls (r.toList ++ rest) g2) : W p l e R s m args below meth c H lo cells slots Q (F0 m pc la st0) := by
  intro T hT Xs
  obtain ⟨v, st₀, t, T', L, h0, X', hL, e1, e2, ⟨⟨hv, hP1, -⟩, hz, hk⟩, stp⟩ := hr T hT Xs
  cases hv
  rw [h0] at hz hk
  obtain ⟨-, -, -, -, -, hK, hAx, -, -, hA, hDj, -, -⟩ := X
  have hAw : ∀ q, aw_ al H.size q → A q := fun q h => by
    rcases h with ⟨k, h1, rfl⟩ | h
    · exact hDj.2 k h1
    · exact hA q (Nat.le_trans hS.1 h)
  obtain ⟨t2, a1, b1⟩ := kk T'.heap (lo ++ L) la (by rw [e1]; exact hP1) ⟨Nat.le_trans hS.1 (by rw [e1]; exact hz), fun q h1 h2 => by rw [e1, hk q (Nat.lt_of_lt_of_le h1 hS.1) (fun z => h2 (hAw q z))]; exact hS.2.1 q h1 h2, fun q hq => by
      rcases List.mem_append.mp hq with h | h
      · exact hS.2.2 q h
      · exact hAw _ (hL q h)⟩ h T' rfl X'
  exact ⟨t2, stp t2 a1, b1⟩
theorem gx_room {dc nl : Nat} (X : gx_X p R s m args meth c D al cI cJ A own cc nL rt d cells slots) (hd : dc + 1 ≤ d) (hl : nl ≤ 40) : dc + 1 ≤ R.frames ∧ 8 + (nl + 11) + 60 * dc ≤ R.locals := by
  obtain ⟨-, -, -, -, -, -, -, ⟨h1, h2⟩, -⟩ := X
  omega
theorem gx_gi {y : MethodName} {b : ByteArray} {nl n : Nat} {rt' : Option FieldType} (hc : gx_c y b nl rt' n) : GoodIn gg_l (Cond.code y b nl rt' :: gg_l) := by
  intro w hw
  have : w ∈ gg_l := by
    rcases List.mem_cons.mp hw with rfl | h
    · exact hc.1
    · exact h
  exact ⟨this, good_of_word (gg_good w this)⟩
theorem gx_recv {H : Heap} {id ci N : Nat} {fs : List Value} {C : String} {T : u_T} (X : gx_X p R s m args meth c D al cI cJ A own cc nL rt d cells slots) (hP : va_P D classes (wld al cI cJ g) H) (hid : id < 63) (hc : cellE al cI cJ id (g.1 id) (g.2 id) = .inr (ci, fs)) (hcl : classes[ci]? = some (C, T, N)) : ∃ cellB : Cell, H[al id]? = some cellB ∧ cellB.vm.isStatics = false ∧ s.vm.findClass C = some cellB.cls :=
  va_recv X.2.2.2.2.2.1 hP hcl (wld_is hid hc)
/-- an instance method, linked in the class's own pool -/
theorem gx_callV (X : gx_X p R s m args meth c D al cI cJ A own cc nL rt d cells slots) (id : Nat) {ci idx n nl dc N : Nat} {fs As rest : List Value} {T : u_T} {y : MethodName} {b : ByteArray} {rt' : Option FieldType} {av : (Nat → Nat) → List Value} {r : Option Value} {g2 : Mm} (hM : gx_M dc y b nl rt' av g r g2) (hC : gx_c y b nl rt' n) (hI : gx_i y) (hl : Cond.methodLink own idx y ∈ gg_l) (hid : id < 63) (hc : cellE al cI cJ id (g.1 id) (g.2 id) = .inr (ci, fs)) (hcl : classes[ci]? = some (y.cls, T, N)) (hav : av al = .ref (al id) :: As) (hn : As.length = n) (hd : dc + 1 ≤ d) (hst : st = As.reverse ++ .ref (al id) :: rest) (hW : (rest.map fun v => v.category).sum ≤ 8) (hdg : decode cc pc = .ok (.invokevirtual idx, 3)) (kk : gx_G p l e R s m args below meth c Q D al cI cJ A nL cells slots (pc + 3) (ls) (r.toList ++ rest) (g2)) : gx_G p l e R s m args below meth c Q D al cI cJ A nL cells slots (pc) (ls) (st) (g) := by
  intro H lo la hP hS h
  have hM' := hM l D al cI cJ H.size
  rw [hav] at hM'
  obtain ⟨r1, r2⟩ := gx_room X hd hC.2.2.2.2.2
  refine gx_back X hP hS h (va_runV (C := y.cls) (As := As) (rest := rest) (Ts := gg_l) ⟨X.1, X.2.1, X.2.2.1, X.2.2.2.1, X.2.2.2.2.1⟩ hM' ⟨callB_of n X.2.2.2.2.1 (gx_gi hC) rfl rfl rfl (X.2.2.2.2.1 _ hC.2.1) (X.2.2.2.2.1 _ hl) ⟨hC.2.2.1, hC.2.2.2.1, hC.2.2.2.2.1⟩ ⟨r1, r2⟩, X.2.2.2.2.1 _ hI.1, X.2.2.2.2.1 _ hI.2⟩ ⟨gx_blind, gx_recv X hP hid hc hcl, fun U hU hW => ⟨rfl, gx_pre X hP hS U hU hW⟩⟩ rfl hn h.1 hst (lv_room hW) hdg ⟨X.2.2.2.2.2.2.2.2.1.1, X.2.2.2.2.2.2.2.2.1.2⟩) kk
/-- .. across the nest -/
theorem gx_callN (X : gx_X p R s m args meth c D al cI cJ A own cc nL rt d cells slots) (id : Nat) {ci idx n nl dc N : Nat} {fs As rest : List Value} {T : u_T} {host : String} {y : MethodName} {b : ByteArray} {rt' : Option FieldType} {av : (Nat → Nat) → List Value} {r : Option Value} {g2 : Mm} (hM : gx_M dc y b nl rt' av g r g2) (hC : gx_c y b nl rt' n) (hI : gx_i y) (hl : (own, idx, y, host) ∈ nw_m) (hid : id < 63) (hc : cellE al cI cJ id (g.1 id) (g.2 id) = .inr (ci, fs)) (hcl : classes[ci]? = some (y.cls, T, N)) (hav : av al = .ref (al id) :: As) (hn : As.length = n) (hd : dc + 1 ≤ d) (hst : st = As.reverse ++ .ref (al id) :: rest) (hW : (rest.map fun v => v.category).sum ≤ 8) (hdg : decode cc pc = .ok (.invokevirtual idx, 3)) (kk : gx_G p l e R s m args below meth c Q D al cI cJ A nL cells slots (pc + 3) (ls) (r.toList ++ rest) (g2)) : gx_G p l e R s m args below meth c Q D al cI cJ A nL cells slots (pc) (ls) (st) (g) := by
  intro H lo la hP hS h
  have hM' := hM l D al cI cJ H.size
  rw [hav] at hM'
  obtain ⟨r1, r2⟩ := gx_room X hd hC.2.2.2.2.2
  refine gx_back X hP hS h (va_runVN (C := y.cls) (As := As) (rest := rest) (Ts := gg_l) ⟨X.1, X.2.1, X.2.2.1, X.2.2.2.1, X.2.2.2.2.1⟩ hM' ⟨va_cnB n X.2.2.2.2.1 (gx_gi hC) rfl rfl rfl (X.2.2.2.2.2.2.1.1 _ hl) (X.2.2.2.2.1 _ hC.2.1) ⟨hC.2.2.1, hC.2.2.2.1, hC.2.2.2.2.1⟩ ⟨r1, r2⟩, X.2.2.2.2.1 _ hI.1, X.2.2.2.2.1 _ hI.2⟩ ⟨gx_blind, gx_recv X hP hid hc hcl, fun U hU hW => ⟨rfl, gx_pre X hP hS U hU hW⟩⟩ rfl hn h.1 hst (lv_room hW) hdg ⟨X.2.2.2.2.2.2.2.2.1.1, X.2.2.2.2.2.2.2.2.1.2⟩) kk
/-- a static one -/
theorem gx_callS (X : gx_X p R s m args meth c D al cI cJ A own cc nL rt d cells slots) {idx n nl dc : Nat} {As rest : List Value} {y : MethodName} {b : ByteArray} {rt' : Option FieldType} {av : (Nat → Nat) → List Value} {r : Option Value} {g2 : Mm} (hM : gx_M dc y b nl rt' av g r g2) (hC : gx_c y b nl rt' n) (hI : Cond.static y ∈ gg_l) (hl : Cond.methodLink own idx y ∈ gg_l) (hav : av al = As) (hn : As.length = n) (hd : dc + 1 ≤ d) (hst : st = As.reverse ++ rest) (hW : (rest.map fun v => v.category).sum ≤ 8) (hdg : decode cc pc = .ok (.invokestatic idx, 3)) (kk : gx_G p l e R s m args below meth c Q D al cI cJ A nL cells slots (pc + 3) (ls) (r.toList ++ rest) (g2)) : gx_G p l e R s m args below meth c Q D al cI cJ A nL cells slots (pc) (ls) (st) (g) := by
  intro H lo la hP hS h
  have hM' := hM l D al cI cJ H.size
  rw [hav] at hM'
  obtain ⟨r1, r2⟩ := gx_room X hd hC.2.2.2.2.2
  refine gx_back X hP hS h (va_runS (As := As) (rest := rest) (Ts := gg_l) ⟨X.1, X.2.1, X.2.2.1, X.2.2.2.1, X.2.2.2.2.1⟩ hM' ⟨callB_of n X.2.2.2.2.1 (gx_gi hC) rfl rfl rfl (X.2.2.2.2.1 _ hC.2.1) (X.2.2.2.2.1 _ hl) ⟨hC.2.2.1, hC.2.2.2.1, hC.2.2.2.2.1⟩ ⟨r1, r2⟩, X.2.2.2.2.1 _ hI⟩ ⟨gx_blind, fun U hU hW => ⟨rfl, gx_pre X hP hS U hU hW⟩⟩ rfl hn h.1 hst (lv_room hW) hdg ⟨X.2.2.2.2.2.2.2.2.1.1, X.2.2.2.2.2.2.2.2.1.2⟩) kk

theorem gx_callVi (X : gx_X p R s m args meth c D al cI cJ A own cc nL rt d cells slots) (id : Nat) {ci idx n nl dc N : Nat} {fs As rest : List Value} {T : u_T} {y : MethodName} {b : ByteArray} {rt' : Option FieldType} {av : (Nat → Nat) → List Value} {v : Int32} {g2 : Mm} (hM : gx_M dc y b nl rt' av g (some (.int v)) g2) (hC : gx_c y b nl rt' n) (hI : gx_i y) (hl : Cond.methodLink own idx y ∈ gg_l) (hid : id < 63) (hc : cellE al cI cJ id (g.1 id) (g.2 id) = .inr (ci, fs)) (hcl : classes[ci]? = some (y.cls, T, N)) (hav : av al = .ref (al id) :: As) (hn : As.length = n) (hd : dc + 1 ≤ d) (hst : st = As.reverse ++ .ref (al id) :: rest) (hW : (rest.map fun v => v.category).sum ≤ 8) (hdg : decode cc pc = .ok (.invokevirtual idx, 3)) (kk : gx_G p l e R s m args below meth c Q D al cI cJ A nL cells slots (pc + 3) (ls) (.int v :: rest) (g2)) : gx_G p l e R s m args below meth c Q D al cI cJ A nL cells slots (pc) (ls) (st) (g) := gx_callV X id hM hC hI hl hid hc hcl hav hn hd hst hW hdg kk
theorem gx_callVl (X : gx_X p R s m args meth c D al cI cJ A own cc nL rt d cells slots) (id : Nat) {ci idx n nl dc N : Nat} {fs As rest : List Value} {T : u_T} {y : MethodName} {b : ByteArray} {rt' : Option FieldType} {av : (Nat → Nat) → List Value} {v : Int64} {g2 : Mm} (hM : gx_M dc y b nl rt' av g (some (.long v)) g2) (hC : gx_c y b nl rt' n) (hI : gx_i y) (hl : Cond.methodLink own idx y ∈ gg_l) (hid : id < 63) (hc : cellE al cI cJ id (g.1 id) (g.2 id) = .inr (ci, fs)) (hcl : classes[ci]? = some (y.cls, T, N)) (hav : av al = .ref (al id) :: As) (hn : As.length = n) (hd : dc + 1 ≤ d) (hst : st = As.reverse ++ .ref (al id) :: rest) (hW : (rest.map fun v => v.category).sum ≤ 8) (hdg : decode cc pc = .ok (.invokevirtual idx, 3)) (kk : gx_G p l e R s m args below meth c Q D al cI cJ A nL cells slots (pc + 3) (ls) (.long v :: rest) (g2)) : gx_G p l e R s m args below meth c Q D al cI cJ A nL cells slots (pc) (ls) (st) (g) := gx_callV X id hM hC hI hl hid hc hcl hav hn hd hst hW hdg kk
theorem gx_callVv (X : gx_X p R s m args meth c D al cI cJ A own cc nL rt d cells slots) (id : Nat) {ci idx n nl dc N : Nat} {fs As rest : List Value} {T : u_T} {y : MethodName} {b : ByteArray} {rt' : Option FieldType} {av : (Nat → Nat) → List Value} {g2 : Mm} (hM : gx_M dc y b nl rt' av g none g2) (hC : gx_c y b nl rt' n) (hI : gx_i y) (hl : Cond.methodLink own idx y ∈ gg_l) (hid : id < 63) (hc : cellE al cI cJ id (g.1 id) (g.2 id) = .inr (ci, fs)) (hcl : classes[ci]? = some (y.cls, T, N)) (hav : av al = .ref (al id) :: As) (hn : As.length = n) (hd : dc + 1 ≤ d) (hst : st = As.reverse ++ .ref (al id) :: rest) (hW : (rest.map fun v => v.category).sum ≤ 8) (hdg : decode cc pc = .ok (.invokevirtual idx, 3)) (kk : gx_G p l e R s m args below meth c Q D al cI cJ A nL cells slots (pc + 3) (ls) (rest) (g2)) : gx_G p l e R s m args below meth c Q D al cI cJ A nL cells slots (pc) (ls) (st) (g) := gx_callV X id hM hC hI hl hid hc hcl hav hn hd hst hW hdg kk
theorem gx_callNi (X : gx_X p R s m args meth c D al cI cJ A own cc nL rt d cells slots) (id : Nat) {ci idx n nl dc N : Nat} {fs As rest : List Value} {T : u_T} {host : String} {y : MethodName} {b : ByteArray} {rt' : Option FieldType} {av : (Nat → Nat) → List Value} {v : Int32} {g2 : Mm} (hM : gx_M dc y b nl rt' av g (some (.int v)) g2) (hC : gx_c y b nl rt' n) (hI : gx_i y) (hl : (own, idx, y, host) ∈ nw_m) (hid : id < 63) (hc : cellE al cI cJ id (g.1 id) (g.2 id) = .inr (ci, fs)) (hcl : classes[ci]? = some (y.cls, T, N)) (hav : av al = .ref (al id) :: As) (hn : As.length = n) (hd : dc + 1 ≤ d) (hst : st = As.reverse ++ .ref (al id) :: rest) (hW : (rest.map fun v => v.category).sum ≤ 8) (hdg : decode cc pc = .ok (.invokevirtual idx, 3)) (kk : gx_G p l e R s m args below meth c Q D al cI cJ A nL cells slots (pc + 3) (ls) (.int v :: rest) (g2)) : gx_G p l e R s m args below meth c Q D al cI cJ A nL cells slots (pc) (ls) (st) (g) := gx_callN X id hM hC hI hl hid hc hcl hav hn hd hst hW hdg kk
theorem gx_callNl (X : gx_X p R s m args meth c D al cI cJ A own cc nL rt d cells slots) (id : Nat) {ci idx n nl dc N : Nat} {fs As rest : List Value} {T : u_T} {host : String} {y : MethodName} {b : ByteArray} {rt' : Option FieldType} {av : (Nat → Nat) → List Value} {v : Int64} {g2 : Mm} (hM : gx_M dc y b nl rt' av g (some (.long v)) g2) (hC : gx_c y b nl rt' n) (hI : gx_i y) (hl : (own, idx, y, host) ∈ nw_m) (hid : id < 63) (hc : cellE al cI cJ id (g.1 id) (g.2 id) = .inr (ci, fs)) (hcl : classes[ci]? = some (y.cls, T, N)) (hav : av al = .ref (al id) :: As) (hn : As.length = n) (hd : dc + 1 ≤ d) (hst : st = As.reverse ++ .ref (al id) :: rest) (hW : (rest.map fun v => v.category).sum ≤ 8) (hdg : decode cc pc = .ok (.invokevirtual idx, 3)) (kk : gx_G p l e R s m args below meth c Q D al cI cJ A nL cells slots (pc + 3) (ls) (.long v :: rest) (g2)) : gx_G p l e R s m args below meth c Q D al cI cJ A nL cells slots (pc) (ls) (st) (g) := gx_callN X id hM hC hI hl hid hc hcl hav hn hd hst hW hdg kk
theorem gx_callNv (X : gx_X p R s m args meth c D al cI cJ A own cc nL rt d cells slots) (id : Nat) {ci idx n nl dc N : Nat} {fs As rest : List Value} {T : u_T} {host : String} {y : MethodName} {b : ByteArray} {rt' : Option FieldType} {av : (Nat → Nat) → List Value} {g2 : Mm} (hM : gx_M dc y b nl rt' av g none g2) (hC : gx_c y b nl rt' n) (hI : gx_i y) (hl : (own, idx, y, host) ∈ nw_m) (hid : id < 63) (hc : cellE al cI cJ id (g.1 id) (g.2 id) = .inr (ci, fs)) (hcl : classes[ci]? = some (y.cls, T, N)) (hav : av al = .ref (al id) :: As) (hn : As.length = n) (hd : dc + 1 ≤ d) (hst : st = As.reverse ++ .ref (al id) :: rest) (hW : (rest.map fun v => v.category).sum ≤ 8) (hdg : decode cc pc = .ok (.invokevirtual idx, 3)) (kk : gx_G p l e R s m args below meth c Q D al cI cJ A nL cells slots (pc + 3) (ls) (rest) (g2)) : gx_G p l e R s m args below meth c Q D al cI cJ A nL cells slots (pc) (ls) (st) (g) := gx_callN X id hM hC hI hl hid hc hcl hav hn hd hst hW hdg kk
theorem gx_callSi (X : gx_X p R s m args meth c D al cI cJ A own cc nL rt d cells slots) {idx n nl dc : Nat} {As rest : List Value} {y : MethodName} {b : ByteArray} {rt' : Option FieldType} {av : (Nat → Nat) → List Value} {v : Int32} {g2 : Mm} (hM : gx_M dc y b nl rt' av g (some (.int v)) g2) (hC : gx_c y b nl rt' n) (hI : Cond.static y ∈ gg_l) (hl : Cond.methodLink own idx y ∈ gg_l) (hav : av al = As) (hn : As.length = n) (hd : dc + 1 ≤ d) (hst : st = As.reverse ++ rest) (hW : (rest.map fun v => v.category).sum ≤ 8) (hdg : decode cc pc = .ok (.invokestatic idx, 3)) (kk : gx_G p l e R s m args below meth c Q D al cI cJ A nL cells slots (pc + 3) (ls) (.int v :: rest) (g2)) : gx_G p l e R s m args below meth c Q D al cI cJ A nL cells slots (pc) (ls) (st) (g) := gx_callS X hM hC hI hl hav hn hd hst hW hdg kk
theorem gx_callSl (X : gx_X p R s m args meth c D al cI cJ A own cc nL rt d cells slots) {idx n nl dc : Nat} {As rest : List Value} {y : MethodName} {b : ByteArray} {rt' : Option FieldType} {av : (Nat → Nat) → List Value} {v : Int64} {g2 : Mm} (hM : gx_M dc y b nl rt' av g (some (.long v)) g2) (hC : gx_c y b nl rt' n) (hI : Cond.static y ∈ gg_l) (hl : Cond.methodLink own idx y ∈ gg_l) (hav : av al = As) (hn : As.length = n) (hd : dc + 1 ≤ d) (hst : st = As.reverse ++ rest) (hW : (rest.map fun v => v.category).sum ≤ 8) (hdg : decode cc pc = .ok (.invokestatic idx, 3)) (kk : gx_G p l e R s m args below meth c Q D al cI cJ A nL cells slots (pc + 3) (ls) (.long v :: rest) (g2)) : gx_G p l e R s m args below meth c Q D al cI cJ A nL cells slots (pc) (ls) (st) (g) := gx_callS X hM hC hI hl hav hn hd hst hW hdg kk
theorem gx_callSv (X : gx_X p R s m args meth c D al cI cJ A own cc nL rt d cells slots) {idx n nl dc : Nat} {As rest : List Value} {y : MethodName} {b : ByteArray} {rt' : Option FieldType} {av : (Nat → Nat) → List Value} {g2 : Mm} (hM : gx_M dc y b nl rt' av g none g2) (hC : gx_c y b nl rt' n) (hI : Cond.static y ∈ gg_l) (hl : Cond.methodLink own idx y ∈ gg_l) (hav : av al = As) (hn : As.length = n) (hd : dc + 1 ≤ d) (hst : st = As.reverse ++ rest) (hW : (rest.map fun v => v.category).sum ≤ 8) (hdg : decode cc pc = .ok (.invokestatic idx, 3)) (kk : gx_G p l e R s m args below meth c Q D al cI cJ A nL cells slots (pc + 3) (ls) (rest) (g2)) : gx_G p l e R s m args below meth c Q D al cI cJ A nL cells slots (pc) (ls) (st) (g) := gx_callS X hM hC hI hl hav hn hd hst hW hdg kk
theorem gx_topi {v x : Int32} (hv : v = x) (k : gx_G p l e R s m args below meth c Q D al cI cJ A nL cells slots (pc) (ls) (.int v :: st) (g)) : gx_G p l e R s m args below meth c Q D al cI cJ A nL cells slots (pc) (ls) (.int x :: st) (g) := by subst hv; exact k
theorem gx_topl {v x : Int64} (hv : v = x) (k : gx_G p l e R s m args below meth c Q D al cI cJ A nL cells slots (pc) (ls) (.long v :: st) (g)) : gx_G p l e R s m args below meth c Q D al cI cJ A nL cells slots (pc) (ls) (.long x :: st) (g) := by subst hv; exact k
end GX
/-- a boolean -/
def zbI (v : Int32) : Bool := decide (v = 0) || decide (v = 1)
theorem zbI_n {v : Int32} (h : zbI v = true) : narrow .boolean (.int v) = .int v := by
  simp only [zbI, Bool.or_eq_true, decide_eq_true_eq] at h
  rcases h with rfl | rfl <;> rfl
/-! the cells, one by one -/
section CL
variable {al : Nat → Nat} {cI cJ : ClassId}
theorem cl_0 (r : Nat → Int32) (q : Nat → Int64) : cellE al cI cJ 0 r q = .inr (9, [.ref (al 1), .ref (al 7), .ref (al 11), .ref (al 23), .ref (al 25), .ref (al 29), .ref (al 32), .ref (al 35)]) := rfl
theorem cl_1 (r : Nat → Int32) (q : Nat → Int64) : cellE al cI cJ 1 r q = .inr (8, [.int (r 0), .int (r 1), .int (r 2), .ref (al 2), .ref (al 3), .ref (al 4), .ref (al 5), .ref (al 6)]) := rfl
theorem cl_2 (r : Nat → Int32) (q : Nat → Int64) : cellE al cI cJ 2 r q = .inl (cI, 6, .inl r) := rfl
theorem cl_3 (r : Nat → Int32) (q : Nat → Int64) : cellE al cI cJ 3 r q = .inl (cI, 6, .inl r) := rfl
theorem cl_4 (r : Nat → Int32) (q : Nat → Int64) : cellE al cI cJ 4 r q = .inl (cI, 6, .inl r) := rfl
theorem cl_5 (r : Nat → Int32) (q : Nat → Int64) : cellE al cI cJ 5 r q = .inl (cI, 144, .inl r) := rfl
theorem cl_6 (r : Nat → Int32) (q : Nat → Int64) : cellE al cI cJ 6 r q = .inl (cI, 24, .inl r) := rfl
theorem cl_7 (r : Nat → Int32) (q : Nat → Int64) : cellE al cI cJ 7 r q = .inr (1, [.ref (al 8), .ref (al 9), .ref (al 10), .int (r 3), .int (r 4)]) := rfl
theorem cl_8 (r : Nat → Int32) (q : Nat → Int64) : cellE al cI cJ 8 r q = .inl (cI, 40, .inl r) := rfl
theorem cl_9 (r : Nat → Int32) (q : Nat → Int64) : cellE al cI cJ 9 r q = .inl (cI, 40, .inl r) := rfl
theorem cl_10 (r : Nat → Int32) (q : Nat → Int64) : cellE al cI cJ 10 r q = .inl (cI, 40, .inl r) := rfl
theorem cl_11 (r : Nat → Int32) (q : Nat → Int64) : cellE al cI cJ 11 r q = .inr (3, [.ref (al 12), .int (r 1), .int (r 2), .ref (al (pgm (r 3))), .ref (al (pgm (r 4)))]) := rfl
theorem cl_12 (r : Nat → Int32) (q : Nat → Int64) : cellE al cI cJ 12 r q = .inl (cI, 120, .inl r) := rfl
theorem cl_13 (r : Nat → Int32) (q : Nat → Int64) : cellE al cI cJ 13 r q = .inr (4, [.ref (al 14), .ref (al 15), .ref (al 16), .ref (al 17), .int (r 4)]) := rfl
theorem cl_14 (r : Nat → Int32) (q : Nat → Int64) : cellE al cI cJ 14 r q = .inl (cI, 121, .inl r) := rfl
theorem cl_15 (r : Nat → Int32) (q : Nat → Int64) : cellE al cI cJ 15 r q = .inl (cI, 121, .inl r) := rfl
theorem cl_16 (r : Nat → Int32) (q : Nat → Int64) : cellE al cI cJ 16 r q = .inl (cI, 121, .inl r) := rfl
theorem cl_17 (r : Nat → Int32) (q : Nat → Int64) : cellE al cI cJ 17 r q = .inl (cI, 6, .inl r) := rfl
theorem cl_18 (r : Nat → Int32) (q : Nat → Int64) : cellE al cI cJ 18 r q = .inr (4, [.ref (al 19), .ref (al 20), .ref (al 21), .ref (al 22), .int (r 4)]) := rfl
theorem cl_19 (r : Nat → Int32) (q : Nat → Int64) : cellE al cI cJ 19 r q = .inl (cI, 121, .inl r) := rfl
theorem cl_20 (r : Nat → Int32) (q : Nat → Int64) : cellE al cI cJ 20 r q = .inl (cI, 121, .inl r) := rfl
theorem cl_21 (r : Nat → Int32) (q : Nat → Int64) : cellE al cI cJ 21 r q = .inl (cI, 121, .inl r) := rfl
theorem cl_22 (r : Nat → Int32) (q : Nat → Int64) : cellE al cI cJ 22 r q = .inl (cI, 6, .inl r) := rfl
theorem cl_23 (r : Nat → Int32) (q : Nat → Int64) : cellE al cI cJ 23 r q = .inr (7, [.ref (al 1), .ref (al 24), .int (r 2)]) := rfl
theorem cl_24 (r : Nat → Int32) (q : Nat → Int64) : cellE al cI cJ 24 r q = .inl (cI, 276, .inl r) := rfl
theorem cl_25 (r : Nat → Int32) (q : Nat → Int64) : cellE al cI cJ 25 r q = .inr (5, [.ref (al 1), .ref (al 26), .ref (al 27), .ref (al 28), .int (r 4)]) := rfl
theorem cl_26 (r : Nat → Int32) (q : Nat → Int64) : cellE al cI cJ 26 r q = .inl (cI, 6, .inl r) := rfl
theorem cl_27 (r : Nat → Int32) (q : Nat → Int64) : cellE al cI cJ 27 r q = .inl (cI, 144, .inl r) := rfl
theorem cl_28 (r : Nat → Int32) (q : Nat → Int64) : cellE al cI cJ 28 r q = .inl (cI, 144, .inl r) := rfl
theorem cl_29 (r : Nat → Int32) (q : Nat → Int64) : cellE al cI cJ 29 r q = .inr (2, [.ref (al 1), .ref (al 30), .ref (al 31), .int (r 3), .int (r 4)]) := rfl
theorem cl_30 (r : Nat → Int32) (q : Nat → Int64) : cellE al cI cJ 30 r q = .inl (cI, 6, .inl r) := rfl
theorem cl_31 (r : Nat → Int32) (q : Nat → Int64) : cellE al cI cJ 31 r q = .inl (cI, 72, .inl r) := rfl
theorem cl_32 (r : Nat → Int32) (q : Nat → Int64) : cellE al cI cJ 32 r q = .inr (0, [.ref (al 33), .ref (al 34), .int (r 2), .int (r 3), .int (r 4)]) := rfl
theorem cl_33 (r : Nat → Int32) (q : Nat → Int64) : cellE al cI cJ 33 r q = .inl (cI, 50, .inl r) := rfl
theorem cl_34 (r : Nat → Int32) (q : Nat → Int64) : cellE al cI cJ 34 r q = .inl (cI, 24, .inl r) := rfl
theorem cl_35 (r : Nat → Int32) (q : Nat → Int64) : cellE al cI cJ 35 r q = .inr (6, [.ref (al 36), .ref (al 37), .ref (al 38), .ref (al 39)]) := rfl
theorem cl_36 (r : Nat → Int32) (q : Nat → Int64) : cellE al cI cJ 36 r q = .inl (cI, 6, .inl r) := rfl
theorem cl_37 (r : Nat → Int32) (q : Nat → Int64) : cellE al cI cJ 37 r q = .inl (cI, 6, .inl r) := rfl
theorem cl_38 (r : Nat → Int32) (q : Nat → Int64) : cellE al cI cJ 38 r q = .inl (cI, 6, .inl r) := rfl
theorem cl_39 (r : Nat → Int32) (q : Nat → Int64) : cellE al cI cJ 39 r q = .inl (cJ, 360, .inr (.inl q)) := rfl
theorem cl_40 (r : Nat → Int32) (q : Nat → Int64) : cellE al cI cJ 40 r q = .inr (10, [.int (r 0), .ref (al 41), .ref (al 42), .ref (al 43), .int (r 4), .int (r 5), .int (r 6), .ref (al 44), .ref (al 45), .ref (al 46), .ref (al 47), .ref (al 48), .int (r 12), .int (r 13), .ref (al 49), .int (r 15), .ref (al 50), .int (r 17), .int (r 18), .int (r 19), .int (r 20), .int (r 21), .int (r 22), .int (r 23), .int (r 24), .int (r 25), .int (r 26), .int (r 27), .int (r 28), .int (r 29), .int (r 30), .int (r 31), .ref (al 51), .int (r 33), .ref (al 52), .ref (al 53), .ref (al 54), .ref (al 55), .int (r 38), .ref (al 56), .int (r 40), .ref (al 57), .int (r 42), .int (r 43), .int (r 44), .ref (al 58), .ref (al 59), .ref (al 60), .ref (al 61), .ref (al 62)]) := rfl
theorem cl_41 (r : Nat → Int32) (q : Nat → Int64) : cellE al cI cJ 41 r q = .inl (cI, 6, .inl r) := rfl
theorem cl_42 (r : Nat → Int32) (q : Nat → Int64) : cellE al cI cJ 42 r q = .inl (cI, 6, .inl r) := rfl
theorem cl_43 (r : Nat → Int32) (q : Nat → Int64) : cellE al cI cJ 43 r q = .inl (cI, 6, .inl r) := rfl
theorem cl_44 (r : Nat → Int32) (q : Nat → Int64) : cellE al cI cJ 44 r q = .inl (cI, 144, .inl r) := rfl
theorem cl_45 (r : Nat → Int32) (q : Nat → Int64) : cellE al cI cJ 45 r q = .inl (cI, 24, .inl r) := rfl
theorem cl_46 (r : Nat → Int32) (q : Nat → Int64) : cellE al cI cJ 46 r q = .inl (cI, 40, .inl r) := rfl
theorem cl_47 (r : Nat → Int32) (q : Nat → Int64) : cellE al cI cJ 47 r q = .inl (cI, 40, .inl r) := rfl
theorem cl_48 (r : Nat → Int32) (q : Nat → Int64) : cellE al cI cJ 48 r q = .inl (cI, 40, .inl r) := rfl
theorem cl_49 (r : Nat → Int32) (q : Nat → Int64) : cellE al cI cJ 49 r q = .inl (cI, 120, .inl r) := rfl
theorem cl_50 (r : Nat → Int32) (q : Nat → Int64) : cellE al cI cJ 50 r q = .inl (cI, 120, .inl r) := rfl
theorem cl_51 (r : Nat → Int32) (q : Nat → Int64) : cellE al cI cJ 51 r q = .inl (cI, 6, .inl r) := rfl
theorem cl_52 (r : Nat → Int32) (q : Nat → Int64) : cellE al cI cJ 52 r q = .inl (cI, 144, .inl r) := rfl
theorem cl_53 (r : Nat → Int32) (q : Nat → Int64) : cellE al cI cJ 53 r q = .inl (cI, 144, .inl r) := rfl
theorem cl_54 (r : Nat → Int32) (q : Nat → Int64) : cellE al cI cJ 54 r q = .inl (cI, 6, .inl r) := rfl
theorem cl_55 (r : Nat → Int32) (q : Nat → Int64) : cellE al cI cJ 55 r q = .inl (cI, 72, .inl r) := rfl
theorem cl_56 (r : Nat → Int32) (q : Nat → Int64) : cellE al cI cJ 56 r q = .inl (cI, 50, .inl r) := rfl
theorem cl_57 (r : Nat → Int32) (q : Nat → Int64) : cellE al cI cJ 57 r q = .inl (cI, 24, .inl r) := rfl
theorem cl_58 (r : Nat → Int32) (q : Nat → Int64) : cellE al cI cJ 58 r q = .inl (cI, 6, .inl r) := rfl
theorem cl_59 (r : Nat → Int32) (q : Nat → Int64) : cellE al cI cJ 59 r q = .inl (cI, 6, .inl r) := rfl
theorem cl_60 (r : Nat → Int32) (q : Nat → Int64) : cellE al cI cJ 60 r q = .inl (cI, 6, .inl r) := rfl
theorem cl_61 (r : Nat → Int32) (q : Nat → Int64) : cellE al cI cJ 61 r q = .inl (cI, 6, .inl r) := rfl
theorem cl_62 (r : Nat → Int32) (q : Nat → Int64) : cellE al cI cJ 62 r q = .inl (cJ, 360, .inr (.inl q)) := rfl
theorem cl_pg (x : Int32) (r : Nat → Int32) (q : Nat → Int64) : cellE al cI cJ (pgm x) r q = .inr (4, [.ref (al (pgm x + 1)), .ref (al (pgm x + 2)), .ref (al (pgm x + 3)), .ref (al (pgm x + 4)), .int (r 4)]) := by
  unfold pgm
  split <;> rfl
theorem cl_pg1 (x : Int32) (r : Nat → Int32) (q : Nat → Int64) : cellE al cI cJ (pgm x + 1) r q = .inl (cI, 121, .inl r) := by
  unfold pgm
  split <;> rfl
theorem cl_pg2 (x : Int32) (r : Nat → Int32) (q : Nat → Int64) : cellE al cI cJ (pgm x + 2) r q = .inl (cI, 121, .inl r) := by
  unfold pgm
  split <;> rfl
theorem cl_pg3 (x : Int32) (r : Nat → Int32) (q : Nat → Int64) : cellE al cI cJ (pgm x + 3) r q = .inl (cI, 121, .inl r) := by
  unfold pgm
  split <;> rfl
theorem cl_pg4 (x : Int32) (r : Nat → Int32) (q : Nat → Int64) : cellE al cI cJ (pgm x + 4) r q = .inl (cI, 6, .inl r) := by
  unfold pgm
  split <;> rfl
end CL
theorem pg_lt (x : Int32) : pgm x < 63 := by unfold pgm; split <;> decide
theorem pg_lt1 (x : Int32) : pgm x + 1 < 63 := by unfold pgm; split <;> decide
theorem pg_lt2 (x : Int32) : pgm x + 2 < 63 := by unfold pgm; split <;> decide
theorem pg_lt3 (x : Int32) : pgm x + 3 < 63 := by unfold pgm; split <;> decide
theorem pg_lt4 (x : Int32) : pgm x + 4 < 63 := by unfold pgm; split <;> decide
/-- a is a row of n ints -/
def ia_ (a n : Nat) : Prop := a < 63 ∧ ∀ (al : Nat → Nat) (cI cJ : ClassId) (r : Nat → Int32) (q : Nat → Int64), cellE al cI cJ a r q = .inl (cI, n, .inl r)
