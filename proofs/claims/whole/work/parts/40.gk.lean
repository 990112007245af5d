/-! CONSTRUCTORS: worlds that grow, listed -/
def gk_X (p : Program) (R : Room) (s : State) (m : MethodId) (args : Array Value) (meth : Method) (c : Code) (D : va_G) (cI cJ : ClassId) (A : Nat → Prop) (own : String) (cc : ByteArray) (nL d : Nat) (rt : Option FieldType) : Prop :=
  p.tables.exec = Jvm.exec ∧ c.code = cc ∧ c.maxLocals = nL ∧ s.vm.findClass own = some m.cls ∧ (∀ w ∈ gg_l, w.before args s = true) ∧ va_K D classes (tysW cI cJ) s ∧ (∀ w ∈ nw_m, va_Nw (.methodLinkNest w.1 w.2.1 w.2.2.1 w.2.2.2) s) ∧
  (d ≤ R.frames ∧ 60 * d ≤ R.locals) ∧ (∀ q, s.heap.size ≤ q → A q) ∧ meth.sig.returnType = rt ∧ meth.locks = false
def gk_G (p : Program) (l : Launch) (e : Env) (R : Room) (s : State) (m : MethodId) (args : Array Value) (below : List Frame) (meth : Method) (c : Code) (Q : State → Prop) (D : va_G) (A : Nat → Prop) (nL cells slots : Nat) (pc : Nat) (ls : List (Nat × Value)) (st : List Value) (ws : va_W) : Prop :=
  ∀ (H : Heap) (lo : List Loc) (la : Array Slot), va_P D classes ws H → va_D A ws → va_S A s.heap H lo → lv_has la nL ls → W p l e R s m args below meth c H lo cells slots Q (F0 m pc la st)
def gk_Q (below : List Frame) (args : Array Value) (s : State) (D : va_G) (cI cJ : ClassId) (A : Nat → Prop) (mc ms : Nat) (w1 : (Nat → Nat) → va_W) : State → Prop :=
  MQ below (fun _ st o t => (∃ qa : Nat → Nat, o = .returned none ∧ va_P D classes (w1 qa) t.heap ∧ va_K D classes (tysW cI cJ) t ∧ va_D A (w1 qa)) ∧ va_F A st t) args s mc ms A
/-- the contract of a method that makes cells, or works where not all are made: from the cells w0 it returns, the cells are w1 -/
def gk_M (d : Nat) (y : MethodName) (b : ByteArray) (nL mc ms : Nat) (av : List Value) (w0 : ClassId → ClassId → va_W) (w1 : ClassId → ClassId → (Nat → Nat) → va_W) : Prop :=
  ∀ (l : Launch) (D : va_G) (cI cJ : ClassId) (sz : Nat), Met l y (Cond.code y b nL none :: gg_l) { frames := d, cells := mc, slots := ms, locals := 60 * d }
    (va_Pc av (fun U => U.heap.size = sz ∧ va_P D classes (w0 cI cJ) U.heap ∧ va_K D classes (tysW cI cJ) U ∧ va_D (fun _ => True) (w0 cI cJ) ∧ ∀ w ∈ nw_m, va_Nw (.methodLinkNest w.1 w.2.1 w.2.2.1 w.2.2.2) U))
    (fun _ st o t => (∃ qa : Nat → Nat, o = .returned none ∧ va_P D classes (w1 cI cJ qa) t.heap ∧ va_K D classes (tysW cI cJ) t ∧ va_D (va_A (w0 cI cJ) sz) (w1 cI cJ qa)) ∧ va_F (va_A (w0 cI cJ) sz) st t) mc ms (va_A (w0 cI cJ) sz)
section GK
variable {p : Program} {l : Launch} {e : Env} {R : Room} {s : State} {m : MethodId} {args : Array Value} {below : List Frame} {meth : Method} {c : Code} {Q : State → Prop} {D : va_G} {cI cJ : ClassId} {A : Nat → Prop} {own : String} {cc : ByteArray} {nL d : Nat} {rt : Option FieldType} {cells slots : Nat} {pc : Nat} {ls : List (Nat × Value)} {st : List Value} {ws : va_W}
theorem gk_M.of {y : MethodName} {b : ByteArray} {mc ms : Nat} {av : List Value} {w0 : ClassId → ClassId → va_W} {w1 : ClassId → ClassId → (Nat → Nat) → va_W} (hy : plainFor y = true) (hav : (lg_sl av).length ≤ nL)
    (body : ∀ (p : Program) (l : Launch) (e : Env) (R : Room) (s : State) (m : MethodId) (args : Array Value) (below : List Frame) (meth : Method) (c : Code) (D : va_G) (cI cJ : ClassId) (A : Nat → Prop), gk_X p R s m args meth c D cI cJ A y.cls b nL d none → meth.name = y.name → mc ≤ R.cells ∧ ms ≤ R.slots →
      gk_G p l e R s m args below meth c (gk_Q below args s D cI cJ A mc ms (w1 cI cJ)) D A nL 0 0 0 (lv_args 0 av) [] (w0 cI cJ)) : gk_M d y b nL mc ms av w0 w1 := by
  intro l D cI cJ sz
  refine gx_ofW (b := b) (ml := nL) (ret := none) hy rfl ?_
  intro p e s m args below meth c s₁ B hml hv
  obtain ⟨rfl, hsz, hP, hK, hD, hN⟩ := hv
  subst hsz
  have hts := atoms_spec (ws := Cond.code y b nL none :: gg_l) B.pre
  have X : gk_X p (headSpec (Cond.code y b nL none :: gg_l) { frames := d, cells := mc, slots := ms, locals := 60 * d }).room s m av.toArray meth c D cI cJ (va_A (w0 cI cJ) s.heap.size) y.cls b nL d none :=
    ⟨B.exec, B.bytes, hml, findClass_of_methodNamed B.named, fun w hw => hts w (List.mem_cons_of_mem _ hw), hK, hN, ⟨Nat.le_refl _, Nat.le_refl _⟩, fun q h => Or.inr h, B.returns, B.notSynchronized⟩
  rw [lg_entry_eq]
  exact body p l e _ s m _ below meth c D cI cJ _ X (name_of_methodNamed B.named B.method).1 ⟨Nat.le_refl _, Nat.le_refl _⟩ _ _ _ hP hD.self va_S.rf (lv_entry av hav)
theorem gk_eq {pc' : Nat} {ls' : List (Nat × Value)} {st' : List Value} {ws' : va_W} (h : pc' = pc ∧ ls' = ls ∧ st' = st ∧ ws' = ws) (k : gk_G p l e R s m args below meth c Q D A nL cells slots pc' ls' st' ws') : gk_G p l e R s m args below meth c Q D A nL cells slots pc ls st ws := by
  obtain ⟨rfl, rfl, rfl, rfl⟩ := h
  exact k

theorem gk_aload_n (X : gk_X p R s m args meth c D cI cJ A own cc nL d rt) (j : Nat) {i : Fin 4} {x : Nat} (hj : ls[j]? = some ((i : Nat), .ref x)) (hdg : decode cc pc = .ok (.aload_n i, 1)) (k : gk_G p l e R s m args below meth c Q D A nL (cells) (slots) (pc + 1) (ls) (.ref x :: st) (ws)) : gk_G p l e R s m args below meth c Q D A nL (cells) (slots) (pc) (ls) (st) (ws) := fun H lo la hP hD hS h => lv_aload_n X.1 X.2.1 hdg rfl (lv_at h j hj) (k H lo la hP hD hS h)
theorem gk_iload_n (X : gk_X p R s m args meth c D cI cJ A own cc nL d rt) (j : Nat) {i : Fin 4} {x : Int32} (hj : ls[j]? = some ((i : Nat), .int x)) (hdg : decode cc pc = .ok (.iload_n i, 1)) (k : gk_G p l e R s m args below meth c Q D A nL (cells) (slots) (pc + 1) (ls) (.int x :: st) (ws)) : gk_G p l e R s m args below meth c Q D A nL (cells) (slots) (pc) (ls) (st) (ws) := fun H lo la hP hD hS h => lv_iload_n X.1 X.2.1 hdg rfl (lv_at h j hj) (k H lo la hP hD hS h)
theorem gk_iconst (X : gk_X p R s m args meth c D cI cJ A own cc nL d rt) {n : Int} {v : Int32} (hdg : decode cc pc = .ok (.iconst n, 1)) (hv : Int32.ofInt n = v) (k : gk_G p l e R s m args below meth c Q D A nL (cells) (slots) (pc + 1) (ls) (.int v :: st) (ws)) : gk_G p l e R s m args below meth c Q D A nL (cells) (slots) (pc) (ls) (st) (ws) := fun H lo la hP hD hS h => lv_iconst X.1 X.2.1 hdg hv (k H lo la hP hD hS h)
theorem gk_bipush (X : gk_X p R s m args meth c D cI cJ A own cc nL d rt) {n : Int} {v : Int32} (hdg : decode cc pc = .ok (.bipush n, 2)) (hv : (Int8.ofInt n).toInt32 = v) (k : gk_G p l e R s m args below meth c Q D A nL (cells) (slots) (pc + 2) (ls) (.int v :: st) (ws)) : gk_G p l e R s m args below meth c Q D A nL (cells) (slots) (pc) (ls) (st) (ws) := fun H lo la hP hD hS h => lv_bipush X.1 X.2.1 hdg hv (k H lo la hP hD hS h)
theorem gk_sipush (X : gk_X p R s m args meth c D cI cJ A own cc nL d rt) {n : Int} {v : Int32} (hdg : decode cc pc = .ok (.sipush n, 3)) (hv : (Int16.ofInt n).toInt32 = v) (k : gk_G p l e R s m args below meth c Q D A nL (cells) (slots) (pc + 3) (ls) (.int v :: st) (ws)) : gk_G p l e R s m args below meth c Q D A nL (cells) (slots) (pc) (ls) (st) (ws) := fun H lo la hP hD hS h => lv_sipush X.1 X.2.1 hdg hv (k H lo la hP hD hS h)
theorem gk_lconst (X : gk_X p R s m args meth c D cI cJ A own cc nL d rt) {n : Fin 2} {v : Int64} (hdg : decode cc pc = .ok (.lconst n, 1)) (hv : Int64.ofNat (n : Nat) = v) (k : gk_G p l e R s m args below meth c Q D A nL (cells) (slots) (pc + 1) (ls) (.long v :: st) (ws)) : gk_G p l e R s m args below meth c Q D A nL (cells) (slots) (pc) (ls) (st) (ws) := fun H lo la hP hD hS h => lv_lconst X.1 X.2.1 hdg hv (k H lo la hP hD hS h)
theorem gk_dup (X : gk_X p R s m args meth c D cI cJ A own cc nL d rt) {va : Value} (hdg : decode cc pc = .ok (.dup, 1)) (hva : va.category = 1) (k : gk_G p l e R s m args below meth c Q D A nL (cells) (slots) (pc + 1) (ls) (va :: va :: st) (ws)) : gk_G p l e R s m args below meth c Q D A nL (cells) (slots) (pc) (ls) (va :: st) (ws) := fun H lo la hP hD hS h => lv_dup X.1 X.2.1 hdg hva (k H lo la hP hD hS h)
theorem gk_istore_n (X : gk_X p R s m args meth c D cI cJ A own cc nL d rt) (ls' : List (Nat × Value)) {i : Fin 4} {x : Int32} (hdg : decode cc pc = .ok (.istore_n i, 1)) (hn : (i : Nat) < nL) (hl : ((i : Nat), Value.int x) :: ls.filter (fun q => !(q.1 == (i : Nat)) && !(q.1 + 1 == (i : Nat) && q.2.category == 2)) = ls') (k : gk_G p l e R s m args below meth c Q D A nL (cells) (slots) (pc + 1) (ls') (st) (ws)) : gk_G p l e R s m args below meth c Q D A nL (cells) (slots) (pc) (ls) (.int x :: st) (ws) := fun H lo la hP hD hS h => lv_istore_n X.1 X.2.1 hdg rfl h hn hl (fun la h => k H lo la hP hD hS h)
theorem gk_astore_n (X : gk_X p R s m args meth c D cI cJ A own cc nL d rt) (ls' : List (Nat × Value)) {i : Fin 4} {x : Nat} (hdg : decode cc pc = .ok (.astore_n i, 1)) (hn : (i : Nat) < nL) (hl : ((i : Nat), Value.ref x) :: ls.filter (fun q => !(q.1 == (i : Nat)) && !(q.1 + 1 == (i : Nat) && q.2.category == 2)) = ls') (k : gk_G p l e R s m args below meth c Q D A nL (cells) (slots) (pc + 1) (ls') (st) (ws)) : gk_G p l e R s m args below meth c Q D A nL (cells) (slots) (pc) (ls) (.ref x :: st) (ws) := fun H lo la hP hD hS h => lv_astore_n X.1 X.2.1 hdg rfl h hn hl (fun la h => k H lo la hP hD hS h)
theorem gk_iinc (X : gk_X p R s m args meth c D cI cJ A own cc nL d rt) (ls' : List (Nat × Value)) (j : Nat) {i : Nat} {n : Int} {x v : Int32} (hdg : decode cc pc = .ok (.iinc i n, 3)) (hj : ls[j]? = some (i, .int x)) (hv : x + Int32.ofInt n = v) (hn : i < nL) (hl : (i, Value.int v) :: ls.filter (fun q => !(q.1 == i) && !(q.1 + 1 == i && q.2.category == 2)) = ls') (k : gk_G p l e R s m args below meth c Q D A nL (cells) (slots) (pc + 3) (ls') (st) (ws)) : gk_G p l e R s m args below meth c Q D A nL (cells) (slots) (pc) (ls) (st) (ws) := fun H lo la hP hD hS h => lv_iinc X.1 X.2.1 hdg h hj hv hn hl (fun la h => k H lo la hP hD hS h)
theorem gk_goto (X : gk_X p R s m args meth c D cI cJ A own cc nL d rt) (tgt : Nat) {off : Int} (hdg : decode cc pc = .ok (.goto off, 3)) (ht : (pc : Int) + off = (tgt : Int)) (k : gk_G p l e R s m args below meth c Q D A nL (cells) (slots) (tgt) (ls) (st) (ws)) : gk_G p l e R s m args below meth c Q D A nL (cells) (slots) (pc) (ls) (st) (ws) := fun H lo la hP hD hS h => lv_goto X.1 X.2.1 hdg ht (k H lo la hP hD hS h)
theorem gk_icmp_ge (X : gk_X p R s m args meth c D cI cJ A own cc nL d rt) (tgt : Nat) {x y : Int32} {off : Int} (hdg : decode cc pc = .ok (.if_icmp .ge off, 3)) (ht : (pc : Int) + off = (tgt : Int)) (kt : y ≤ x → gk_G p l e R s m args below meth c Q D A nL (cells) (slots) (tgt) (ls) (st) (ws)) (kf : ¬ y ≤ x → gk_G p l e R s m args below meth c Q D A nL (cells) (slots) (pc + 3) (ls) (st) (ws)) : gk_G p l e R s m args below meth c Q D A nL (cells) (slots) (pc) (ls) (.int y :: .int x :: st) (ws) := fun H lo la hP hD hS h => lv_icmp_ge X.1 X.2.1 hdg ht (fun q => kt q H lo la hP hD hS h) (fun q => kf q H lo la hP hD hS h)
theorem gk_obj (X : gk_X p R s m args meth c D cI cJ A own cc nL d rt) {a idx : Nat} (hl : Cond.methodLink own idx objectInit ∈ gg_l) (hi : Cond.instanceMethod objectInit ∈ gg_l) (hc : Cond.code objectInit ⟨#[0xb1]⟩ 1 none ∈ gg_l) (hd : 1 ≤ d) (hW : (st.map fun v => v.category).sum ≤ 8) (hdg : decode cc pc = .ok (.invokespecial idx, 3)) (kk : gk_G p l e R s m args below meth c Q D A nL (cells) (slots) (pc + 3) (ls) (st) (ws)) : gk_G p l e R s m args below meth c Q D A nL (cells) (slots) (pc) (ls) (.ref a :: st) (ws) := by
  intro H lo la hP hD hS h
  have hR := X.2.2.2.2.2.2.2.1
  refine W.objInit X.1 X.2.1 X.2.2.2.1 (X.2.2.2.2.1 _ hl) (X.2.2.2.2.1 _ hi) (X.2.2.2.2.1 _ hc) rfl (h.1.trans X.2.2.1.symm) rfl hdg (by omega) ?_ ?_
  · show 2 * 0 + _ + 12 ≤ _
    omega
  · exact kk H lo la hP hD hS h
theorem gk_new (X : gk_X p R s m args meth c D cI cJ A own cc nL d rt) {ci idx N : Nat} {C : String} {T : u_T} (ty : Nat → FieldType) (fs : List Value) (w' : Nat → va_W) (hcl : classes[ci]? = some (C, T, N)) (hty : ∀ k, k < N → parseFieldDescriptor (T k).2.2.1 = some (ty k)) (hin : ∀ w ∈ u_ws C T N, w ∈ gg_l) (h1 : Cond.classLink own idx C ∈ gg_l) (h2 : Cond.instantiable C N ∈ gg_l) (h3 : Cond.initialized C ∈ gg_l) (hfs : ∀ j, j < N → defaultValue (ty j) = vp_V fs j) (hw : ∀ q, ws ++ [(q, .inr (ci, fs))] = w' q) (hc : cells + 1 ≤ R.cells) (hs : slots + N ≤ R.slots) (hdg : decode cc pc = .ok (.new idx, 3)) (kk : ∀ q : Nat, gk_G p l e R s m args below meth c Q D A nL (cells + 1) (slots + N) (pc + 3) (ls) (.ref q :: st) (w' q)) : gk_G p l e R s m args below meth c Q D A nL (cells) (slots) (pc) (ls) (st) (ws) := by
  intro H lo la hP hD hS h
  refine va_new (ci := ci) (fs := fs) (C := C) (T := T) (N := N) X.1 X.2.1 X.2.2.2.2.1 hin ty hty X.2.2.2.1 (X.2.2.2.2.1 _ h1) (X.2.2.2.2.1 _ h2) (X.2.2.2.2.1 _ h3) X.2.2.2.2.2.1 hP hD hS X.2.2.2.2.2.2.2.2.1 hcl hfs hc hs hdg fun q H1 hP1 hD1 hS1 => ?_
  rw [hw q] at hP1 hD1
  exact kk q H1 lo la hP1 hD1 hS1 h
theorem gk_newi (X : gk_X p R s m args meth c D cI cJ A own cc nL d rt) (n : Nat) {v : Int32} (w' : Nat → va_W) (hv : ¬ v < 0) (hn : v.toNatClampNeg = n) (hb : n * componentBytes .int ≤ 536870912) (ha : Cond.arrayClass .int ∈ gg_l) (hw : ∀ q, ws ++ [(q, .inl (cI, (n, .inl (fun _ => 0))))] = w' q) (hc : cells + 1 ≤ R.cells) (hs : slots + n ≤ R.slots) (hdg : decode cc pc = .ok (.newarray .int, 2)) (kk : ∀ q : Nat, gk_G p l e R s m args below meth c Q D A nL (cells + 1) (slots + n) (pc + 2) (ls) (.ref q :: st) (w' q)) : gk_G p l e R s m args below meth c Q D A nL (cells) (slots) (pc) (ls) (.int v :: st) (ws) := by
  intro H lo la hP hD hS h
  refine va_newa (atype := .int) (ty := .int) (a0 := (n, .inl (fun _ => 0))) (N' := n) X.1 X.2.1 (X.2.2.2.2.1 _ ha) rfl X.2.2.2.2.2.1 hP hD hS X.2.2.2.2.2.2.2.2.1 (fun _ => rfl) hv hn hb hc hs hdg fun q cA H1 hK1 hP1 hD1 hS1 => ?_
  have e : cA = cI := by
    have h1 : s.vm.findClass _ = some cA := (hK1.2 2 (cA, .int) rfl).2
    have h2 : s.vm.findClass _ = some cI := (hK1.2 0 (cI, .int) rfl).2
    exact Option.some.inj (h1.symm.trans h2)
  subst e
  rw [hw q] at hP1 hD1
  exact kk q H1 lo la hP1 hD1 hS1 h
theorem gk_newl (X : gk_X p R s m args meth c D cI cJ A own cc nL d rt) (n : Nat) {v : Int32} (w' : Nat → va_W) (hv : ¬ v < 0) (hn : v.toNatClampNeg = n) (hb : n * componentBytes .long ≤ 536870912) (ha : Cond.arrayClass .long ∈ gg_l) (hw : ∀ q, ws ++ [(q, .inl (cJ, (n, .inr (.inl (fun _ => 0)))))] = w' q) (hc : cells + 1 ≤ R.cells) (hs : slots + n ≤ R.slots) (hdg : decode cc pc = .ok (.newarray .long, 2)) (kk : ∀ q : Nat, gk_G p l e R s m args below meth c Q D A nL (cells + 1) (slots + n) (pc + 2) (ls) (.ref q :: st) (w' q)) : gk_G p l e R s m args below meth c Q D A nL (cells) (slots) (pc) (ls) (.int v :: st) (ws) := by
  intro H lo la hP hD hS h
  refine va_newa (atype := .long) (ty := .long) (a0 := (n, .inr (.inl (fun _ => 0)))) (N' := n) X.1 X.2.1 (X.2.2.2.2.1 _ ha) rfl X.2.2.2.2.2.1 hP hD hS X.2.2.2.2.2.2.2.2.1 (fun _ => rfl) hv hn hb hc hs hdg fun q cA H1 hK1 hP1 hD1 hS1 => ?_
  have e : cA = cJ := by
    have h1 : s.vm.findClass _ = some cA := (hK1.2 2 (cA, .long) rfl).2
    have h2 : s.vm.findClass _ = some cJ := (hK1.2 1 (cJ, .long) rfl).2
    exact Option.some.inj (h1.symm.trans h2)
  subst e
  rw [hw q] at hP1 hD1
  exact kk q H1 lo la hP1 hD1 hS1 h
theorem gk_put (X : gk_X p R s m args meth c D cI cJ A own cc nL d rt) (q0 k : Nat) {ci idx N a : Nat} {C : String} {T : u_T} {fs : List Value} {v : Value} {ty : FieldType} (tyf : Nat → FieldType) (w' : va_W) (hcl : classes[ci]? = some (C, T, N)) (hty : ∀ k, k < N → parseFieldDescriptor (T k).2.2.1 = some (tyf k)) (hnm : ∀ a, a < N → ∀ b, b < N → a ≠ b → (T a).2.1 ≠ (T b).2.1) (hin : ∀ w ∈ u_ws C T N, w ∈ gg_l) (he : ws[q0]? = some (a, .inr (ci, fs))) (hk : k < N) (hl : Cond.fieldLink own idx (T k).1 (T k).2.1 (T k).2.2.1 ∈ gg_l) (hf : (T k).2.2.2 = false) (hd : parseFieldDescriptor (T k).2.2.1 = some ty) (hn : narrow ty v = v) (hfit : fits ty v = true) (hlen : k < fs.length) (hw : ws.set q0 (a, .inr (ci, fs.set k v)) = w') (hdg : decode cc pc = .ok (.putfield idx, 3)) (kk : gk_G p l e R s m args below meth c Q D A nL (cells) (slots) (pc + 3) (ls) (st) (w')) : gk_G p l e R s m args below meth c Q D A nL (cells) (slots) (pc) (ls) (v :: .ref a :: st) (ws) := by
  intro H lo la hP hD hS h
  refine va_put X.1 X.2.1 X.2.2.2.2.1 hin tyf hty hnm X.2.2.2.1 X.2.2.2.2.2.1 hP hD hS q0 he hcl k hk (X.2.2.2.2.1 _ hl) (fun _ q => q) hf hd hn hfit hlen hdg fun H1 lo1 hP1 hD1 hS1 => ?_
  rw [hw] at hP1 hD1
  exact kk H1 lo1 la hP1 hD1 hS1 h
theorem gk_putF (X : gk_X p R s m args meth c D cI cJ A own cc nL d rt) (q0 k : Nat) {ci idx N a : Nat} {C : String} {T : u_T} {fs : List Value} {v : Value} {ty : FieldType} (tyf : Nat → FieldType) (w' : va_W) (hcl : classes[ci]? = some (C, T, N)) (hty : ∀ k, k < N → parseFieldDescriptor (T k).2.2.1 = some (tyf k)) (hnm : ∀ a, a < N → ∀ b, b < N → a ≠ b → (T a).2.1 ≠ (T b).2.1) (hin : ∀ w ∈ u_ws C T N, w ∈ gg_l) (he : ws[q0]? = some (a, .inr (ci, fs))) (hk : k < N) (hl : Cond.fieldLink own idx (T k).1 (T k).2.1 (T k).2.2.1 ∈ gg_l) (hf : (T k).2.2.2 = true) (hin2 : meth.name = "<init>") (hdecl : (T k).1 = own) (hd : parseFieldDescriptor (T k).2.2.1 = some ty) (hn : narrow ty v = v) (hfit : fits ty v = true) (hlen : k < fs.length) (hw : ws.set q0 (a, .inr (ci, fs.set k v)) = w') (hdg : decode cc pc = .ok (.putfield idx, 3)) (kk : gk_G p l e R s m args below meth c Q D A nL (cells) (slots) (pc + 3) (ls) (st) (w')) : gk_G p l e R s m args below meth c Q D A nL (cells) (slots) (pc) (ls) (v :: .ref a :: st) (ws) := by
  intro H lo la hP hD hS h
  refine va_putF X.1 X.2.1 X.2.2.2.2.1 hin tyf hty hnm X.2.2.2.1 X.2.2.2.2.2.1 hP hD hS q0 he hcl k hk (X.2.2.2.2.1 _ hl) (fun _ q => q) hf hin2 hdecl hd hn hfit hlen hdg fun H1 lo1 hP1 hD1 hS1 => ?_
  rw [hw] at hP1 hD1
  exact kk H1 lo1 la hP1 hD1 hS1 h
theorem gk_get (X : gk_X p R s m args meth c D cI cJ A own cc nL d rt) (q0 k : Nat) {ci idx N a : Nat} {C : String} {T : u_T} {fs : List Value} {v : Value} (hcl : classes[ci]? = some (C, T, N)) (hin : ∀ w ∈ u_ws C T N, w ∈ gg_l) (he : ws[q0]? = some (a, .inr (ci, fs))) (hk : k < N) (hl : Cond.fieldLink own idx (T k).1 (T k).2.1 (T k).2.2.1 ∈ gg_l) (hv : fs[k]? = some v) (hdg : decode cc pc = .ok (.getfield idx, 3)) (kk : gk_G p l e R s m args below meth c Q D A nL (cells) (slots) (pc + 3) (ls) (v :: st) (ws)) : gk_G p l e R s m args below meth c Q D A nL (cells) (slots) (pc) (ls) (.ref a :: st) (ws) := by
  intro H lo la hP hD hS h
  exact va_get X.1 X.2.1 X.2.2.2.2.1 hin X.2.2.2.1 X.2.2.2.2.2.1 hP q0 he hcl k hk (X.2.2.2.2.1 _ hl) (fun _ q => q) hv hdg (kk H lo la hP hD hS h)
theorem gk_iast (X : gk_X p R s m args meth c D cI cJ A own cc nL d rt) (q0 : Nat) {a n : Nat} {f f' : Nat → Int32} {i v : Int32} (w' : va_W) (he : ws[q0]? = some (a, .inl (cI, n, .inl f))) (hi : ixo i n = true) (hf : up_f f i.toNatClampNeg v = f') (hw : ws.set q0 (a, .inl (cI, n, .inl f')) = w') (hdg : decode cc pc = .ok (.iastore, 1)) (kk : gk_G p l e R s m args below meth c Q D A nL (cells) (slots) (pc + 1) (ls) (st) (w')) : gk_G p l e R s m args below meth c Q D A nL (cells) (slots) (pc) (ls) (.int v :: .int i :: .ref a :: st) (ws) := by
  intro H lo la hP hD hS h
  refine va_iast X.1 X.2.1 X.2.2.2.2.2.1 hP hD hS q0 0 he rfl (ixo_in hi) hdg fun H1 lo1 hP1 hD1 hS1 => ?_
  have e : upd f i.toNatClampNeg v = f' := hf
  rw [e, hw] at hP1 hD1
  exact kk H1 lo1 la hP1 hD1 hS1 h
theorem gk_ret {w1 : (Nat → Nat) → va_W} {mc ms : Nat} (X : gk_X p R s m args meth c D cI cJ A own cc nL d none) (qa : Nat → Nat) (hw : w1 qa = ws) (h1 : cells = mc) (h2 : slots = ms) (hdg : decode cc pc = .ok (.return_, 1)) : gk_G p l e R s m args below meth c (gk_Q below args s D cI cJ A mc ms w1) D A nL cells slots pc ls [] ws := by
  intro H lo la hP hD hS h
  subst h1
  subst h2
  exact W.vret X.1 X.2.1 X.2.2.2.2.2.2.2.2.2.1 (fun t ht hW => ⟨⟨qa, rfl, by rw [ht, hw]; exact hP, va_K.moved hW.alike X.2.2.2.2.2.1, by rw [hw]; exact hD⟩, hS.F ht⟩) hS.2.2 hdg X.2.2.2.2.2.2.2.2.2.2
theorem gk_blind {av : List Value} {sz : Nat} {w0 : va_W} : FrameBlind (va_Pc av (fun U => U.heap.size = sz ∧ va_P D classes w0 U.heap ∧ va_K D classes (tysW cI cJ) U ∧ va_D (fun _ => True) w0 ∧ ∀ w ∈ nw_m, va_Nw (.methodLinkNest w.1 w.2.1 w.2.2.1 w.2.2.2) U)) := by
  intro a U f mk q
  obtain ⟨q0, q1, q2, q3, q4, q5⟩ := q
  exact ⟨q0, q1, q2, va_K.moved (u := U) (U := U.calling f mk a) (Vm.Alike.refl U.vm) q3, q4, fun w hw => va_Nw.same (u := U) (U := U.calling f mk a) rfl rfl (q5 w hw)⟩
theorem gk_back {H : Heap} {lo : List Loc} {la : Array Slot} {mc ms : Nat} {wc wr : va_W} {w1 wn : (Nat → Nat) → va_W} {rest st0 : List Value} (X : gk_X p R s m args meth c D cI cJ A own cc nL d rt) (isC isR : List Nat) (hC : isC.map (fun i => ws[i]?) = wc.map some) (hR : isR.map (fun i => ws[i]?) = wr.map some) (hn : va_nd isR = true) (hdis : ∀ i ∈ isR, i ∉ isC) (hw : ∀ qa, wr ++ w1 qa = wn qa) (hP : va_P D classes ws H) (hD : va_D A ws) (hS : va_S A s.heap H lo) (h : lv_has la nL ls)
    (hr : va_Run p l e R s m args below meth c H lo cells slots mc ms (F0 m pc la st0) rest (fun st o t => (∃ qa : Nat → Nat, o = .returned none ∧ va_P D classes (w1 qa) t.heap ∧ va_K D classes (tysW cI cJ) t ∧ va_D (va_A wc H.size) (w1 qa)) ∧ va_F (va_A wc H.size) st t) (va_A wc H.size))
    (kk : ∀ qa : Nat → Nat, gk_G p l e R s m args below meth c Q D A nL (cells + mc) (slots + ms) (pc + 3) (ls) (rest) (wn qa)) : W p l e R s m args below meth c H lo cells slots Q (F0 m pc la st0) := by
  intro T hT Xs
  obtain ⟨v, st₀, t, T', L, h0, X', hL, e1, e2, ⟨⟨qa, hv, hP1, -, hD1⟩, hz, hk⟩, stp⟩ := hr T hT Xs
  cases hv
  rw [h0] at hz hk
  have hF := va_free (wc := wc) hD hS X.2.2.2.2.2.2.2.2.1 isC hC
  obtain ⟨hP2, hD2⟩ := va_join hP hD isC isR hC hR hn hdis hk hF hP1 hD1
  rw [hw] at hP2 hD2
  obtain ⟨t2, a1, b1⟩ := kk qa T'.heap (lo ++ L) la (by rw [e1]; exact hP2) hD2 ⟨Nat.le_trans hS.1 (by rw [e1]; exact hz), fun q h1 h2 => by rw [e1, hk q (Nat.lt_of_lt_of_le h1 hS.1) (fun z => h2 (hF q z))]; exact hS.2.1 q h1 h2, fun q hq => by
      rcases List.mem_append.mp hq with h | h
      · exact hS.2.2 q h
      · exact hF _ (hL q h)⟩ h T' rfl X'
  exact ⟨t2, stp t2 a1, b1⟩
theorem gk_pre {H : Heap} {w0 : va_W} (X : gk_X p R s m args meth c D cI cJ A own cc nL d rt) (isC : List Nat) (hC : isC.filterMap (fun i => ws[i]?) = w0) (hn : va_nd isC = true) (hC2 : isC.map (fun i => ws[i]?) = w0.map some) (hP : va_P D classes ws H) (hD : va_D A ws) : ∀ U : State, U.heap = H → s.WarmedH U.vm → U.heap.size = H.size ∧ va_P D classes w0 U.heap ∧ va_K D classes (tysW cI cJ) U ∧ va_D (fun _ => True) w0 ∧ ∀ w ∈ nw_m, va_Nw (.methodLinkNest w.1 w.2.1 w.2.2.1 w.2.2.2) U := by
  intro U hU hW
  subst hU
  exact ⟨rfl, hP.sub isC hC, va_K.moved hW.alike X.2.2.2.2.2.1, (hD.sub isC hn hC2).weaken (fun _ _ _ _ => trivial), fun w hw => va_Nw.warmM hW (X.2.2.2.2.2.2.1 w hw)⟩
theorem gk_room {dc nl : Nat} (X : gk_X p R s m args meth c D cI cJ A own cc nL d rt) (hd : dc + 1 ≤ d) (hl : nl ≤ 40) : dc + 1 ≤ R.frames ∧ 8 + (nl + 11) + 60 * dc ≤ R.locals := by
  obtain ⟨-, -, -, -, -, -, -, ⟨h1, h2⟩, -⟩ := X
  omega
/-- a constructor of a nest mate -/
theorem gk_init (X : gk_X p R s m args meth c D cI cJ A own cc nL d rt) (isC isR : List Nat) {idx n nl dc mc ms a : Nat} {As rest : List Value} {host : String} {y : MethodName} {b : ByteArray} {w0 : ClassId → ClassId → va_W} {w1 : ClassId → ClassId → (Nat → Nat) → va_W} {wr : va_W} (wn : (Nat → Nat) → va_W) (hM : gk_M dc y b nl mc ms (.ref a :: As) w0 w1) (hcode : gx_c y b nl none n) (hI : Cond.instanceMethod y ∈ gg_l) (hin : y.name = "<init>") (hl : (own, idx, y, host) ∈ nw_m) (hn : As.length = n) (hd : dc + 1 ≤ d) (hst : st = As.reverse ++ .ref a :: rest) (hW : (rest.map fun v => v.category).sum ≤ 8) (hcs : cells + mc ≤ R.cells ∧ slots + ms ≤ R.slots)
    (hF : isC.filterMap (fun i => ws[i]?) = w0 cI cJ) (hnC : va_nd isC = true) (hC : isC.map (fun i => ws[i]?) = (w0 cI cJ).map some) (hR : isR.map (fun i => ws[i]?) = wr.map some) (hnR : va_nd isR = true) (hdis : ∀ i ∈ isR, i ∉ isC) (hw : ∀ qa, wr ++ w1 cI cJ qa = wn qa) (hdg : decode cc pc = .ok (.invokespecial idx, 3)) (kk : ∀ qa : Nat → Nat, gk_G p l e R s m args below meth c Q D A nL (cells + mc) (slots + ms) (pc + 3) (ls) (rest) (wn qa)) : gk_G p l e R s m args below meth c Q D A nL (cells) (slots) (pc) (ls) (st) (ws) := by
  intro H lo la hP hD hS h
  have hM' := hM l D cI cJ H.size
  obtain ⟨r1, r2⟩ := gk_room X hd hcode.2.2.2.2.2
  exact gk_back X isC isR hC hR hnR hdis hw hP hD hS h (va_runIN (As := As) (rest := rest) (Ts := gg_l) ⟨X.1, X.2.1, X.2.2.1, X.2.2.2.1, X.2.2.2.2.1⟩ hM' ⟨va_cnB n X.2.2.2.2.1 (gx_gi hcode) rfl rfl rfl (X.2.2.2.2.2.2.1 _ hl) (X.2.2.2.2.1 _ hcode.2.1) ⟨hcode.2.2.1, hcode.2.2.2.1, hcode.2.2.2.2.1⟩ ⟨r1, r2⟩, hin, X.2.2.2.2.1 _ hI⟩ ⟨gk_blind, fun U hU hW => ⟨rfl, gk_pre X isC hF hnC hC hP hD U hU hW⟩⟩ rfl hn h.1 hst (lv_room hW) hdg hcs) kk
/-- .. linked in the own pool -/
theorem gk_initO (X : gk_X p R s m args meth c D cI cJ A own cc nL d rt) (isC isR : List Nat) {idx n nl dc mc ms a : Nat} {As rest : List Value} {y : MethodName} {b : ByteArray} {w0 : ClassId → ClassId → va_W} {w1 : ClassId → ClassId → (Nat → Nat) → va_W} {wr : va_W} (wn : (Nat → Nat) → va_W) (hM : gk_M dc y b nl mc ms (.ref a :: As) w0 w1) (hcode : gx_c y b nl none n) (hI : Cond.instanceMethod y ∈ gg_l) (hin : y.name = "<init>") (hl : Cond.methodLink own idx y ∈ gg_l) (hn : As.length = n) (hd : dc + 1 ≤ d) (hst : st = As.reverse ++ .ref a :: rest) (hW : (rest.map fun v => v.category).sum ≤ 8) (hcs : cells + mc ≤ R.cells ∧ slots + ms ≤ R.slots)
    (hF : isC.filterMap (fun i => ws[i]?) = w0 cI cJ) (hnC : va_nd isC = true) (hC : isC.map (fun i => ws[i]?) = (w0 cI cJ).map some) (hR : isR.map (fun i => ws[i]?) = wr.map some) (hnR : va_nd isR = true) (hdis : ∀ i ∈ isR, i ∉ isC) (hw : ∀ qa, wr ++ w1 cI cJ qa = wn qa) (hdg : decode cc pc = .ok (.invokespecial idx, 3)) (kk : ∀ qa : Nat → Nat, gk_G p l e R s m args below meth c Q D A nL (cells + mc) (slots + ms) (pc + 3) (ls) (rest) (wn qa)) : gk_G p l e R s m args below meth c Q D A nL (cells) (slots) (pc) (ls) (st) (ws) := by
  intro H lo la hP hD hS h
  have hM' := hM l D cI cJ H.size
  obtain ⟨r1, r2⟩ := gk_room X hd hcode.2.2.2.2.2
  exact gk_back X isC isR hC hR hnR hdis hw hP hD hS h (va_runI (As := As) (rest := rest) (Ts := gg_l) ⟨X.1, X.2.1, X.2.2.1, X.2.2.2.1, X.2.2.2.2.1⟩ hM' ⟨callB_of n X.2.2.2.2.1 (gx_gi hcode) rfl rfl rfl (X.2.2.2.2.1 _ hcode.2.1) (X.2.2.2.2.1 _ hl) ⟨hcode.2.2.1, hcode.2.2.2.1, hcode.2.2.2.2.1⟩ ⟨r1, r2⟩, hin, X.2.2.2.2.1 _ hI⟩ ⟨gk_blind, fun U hU hW => ⟨rfl, gk_pre X isC hF hnC hC hP hD U hU hW⟩⟩ rfl hn h.1 hst (lv_room hW) hdg hcs) kk
/-- a private void method of the own class -/
theorem gk_callV (X : gk_X p R s m args meth c D cI cJ A own cc nL d rt) (isC isR : List Nat) (q0 : Nat) {ci idx n nl dc mc ms a N : Nat} {fs As rest : List Value} {T : u_T} {y : MethodName} {b : ByteArray} {w0 : ClassId → ClassId → va_W} {w1 : ClassId → ClassId → (Nat → Nat) → va_W} {wr : va_W} (wn : (Nat → Nat) → va_W) (hM : gk_M dc y b nl mc ms (.ref a :: As) w0 w1) (hcode : gx_c y b nl none n) (hI : gx_i y) (hl : Cond.methodLink own idx y ∈ gg_l) (he : ws[q0]? = some (a, .inr (ci, fs))) (hcl : classes[ci]? = some (y.cls, T, N)) (hn : As.length = n) (hd : dc + 1 ≤ d) (hst : st = As.reverse ++ .ref a :: rest) (hW : (rest.map fun v => v.category).sum ≤ 8) (hcs : cells + mc ≤ R.cells ∧ slots + ms ≤ R.slots)
    (hF : isC.filterMap (fun i => ws[i]?) = w0 cI cJ) (hnC : va_nd isC = true) (hC : isC.map (fun i => ws[i]?) = (w0 cI cJ).map some) (hR : isR.map (fun i => ws[i]?) = wr.map some) (hnR : va_nd isR = true) (hdis : ∀ i ∈ isR, i ∉ isC) (hw : ∀ qa, wr ++ w1 cI cJ qa = wn qa) (hdg : decode cc pc = .ok (.invokevirtual idx, 3)) (kk : ∀ qa : Nat → Nat, gk_G p l e R s m args below meth c Q D A nL (cells + mc) (slots + ms) (pc + 3) (ls) (rest) (wn qa)) : gk_G p l e R s m args below meth c Q D A nL (cells) (slots) (pc) (ls) (st) (ws) := by
  intro H lo la hP hD hS h
  have hM' := hM l D cI cJ H.size
  obtain ⟨r1, r2⟩ := gk_room X hd hcode.2.2.2.2.2
  exact gk_back X isC isR hC hR hnR hdis hw hP hD hS h (va_runV (C := y.cls) (As := As) (rest := rest) (Ts := gg_l) ⟨X.1, X.2.1, X.2.2.1, X.2.2.2.1, X.2.2.2.2.1⟩ hM' ⟨callB_of n X.2.2.2.2.1 (gx_gi hcode) rfl rfl rfl (X.2.2.2.2.1 _ hcode.2.1) (X.2.2.2.2.1 _ hl) ⟨hcode.2.2.1, hcode.2.2.2.1, hcode.2.2.2.2.1⟩ ⟨r1, r2⟩, X.2.2.2.2.1 _ hI.1, X.2.2.2.2.1 _ hI.2⟩ ⟨gk_blind, va_recv X.2.2.2.2.2.1 hP hcl he, fun U hU hW => ⟨rfl, gk_pre X isC hF hnC hC hP hD U hU hW⟩⟩ rfl hn h.1 hst (lv_room hW) hdg hcs) kk
end GK
