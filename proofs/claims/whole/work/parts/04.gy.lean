section GY
variable {p : Program} {l : Launch} {e : Env} {R : Room} {s : State} {m : MethodId} {args : Array Value} {below : List Frame} {meth : Method} {c : Code} {Q : State → Prop} {D : va_G} {al : Nat → Nat} {cI cJ : ClassId} {A : Nat → Prop} {own : String} {cc : ByteArray} {nL d : Nat} {rt : Option FieldType} {cells slots : Nat} {pc : Nat} {ls : List (Nat × Value)} {st : List Value} {g : Mm}
theorem gx_g_above (X : gx_X p R s m args meth c D al cI cJ A own cc nL rt d cells slots) {idx : Nat} (hl : Cond.fieldLink own idx "AnyTwoBells$Acts" "ABOVE" "[I" ∈ gg_l) (hdg : decode cc pc = .ok (.getstatic idx, 3)) (k : gx_G p l e R s m args below meth c Q D al cI cJ A nL cells slots (pc + 3) (ls) (.ref (al 100) :: st) (g)) : gx_G p l e R s m args below meth c Q D al cI cJ A nL cells slots (pc) (ls) (st) (g) := fun H lo la hP hS h => va_gets X.1 X.2.1 X.2.2.2.2.2.2.1.2.2.1 hS X.2.2.2.1 (X.2.2.2.2.1 _ hl) (fun _ q => q) hdg (k H lo la hP hS h)
theorem gx_g_own (X : gx_X p R s m args meth c D al cI cJ A own cc nL rt d cells slots) {idx : Nat} (hl : Cond.fieldLink own idx "AnyTwoBells$Acts" "OWN" "[I" ∈ gg_l) (hdg : decode cc pc = .ok (.getstatic idx, 3)) (k : gx_G p l e R s m args below meth c Q D al cI cJ A nL cells slots (pc + 3) (ls) (.ref (al 101) :: st) (g)) : gx_G p l e R s m args below meth c Q D al cI cJ A nL cells slots (pc) (ls) (st) (g) := fun H lo la hP hS h => va_gets X.1 X.2.1 X.2.2.2.2.2.2.1.2.2.2.2.1 hS X.2.2.2.1 (X.2.2.2.2.1 _ hl) (fun _ q => q) hdg (k H lo la hP hS h)
theorem gx_t_above (X : gx_X p R s m args meth c D al cI cJ A own cc nL rt d cells slots) {i : Int32} (hi : ixo i 8 = true) (hdg : decode cc pc = .ok (.iaload, 1)) (k : gx_G p l e R s m args below meth c Q D al cI cJ A nL cells slots (pc + 1) (ls) (.int (tbI 100 i.toNatClampNeg) :: st) (g)) : gx_G p l e R s m args below meth c Q D al cI cJ A nL cells slots (pc) (ls) (.int i :: .ref (al 100) :: st) (g) := fun H lo la hP hS h => va_ti X.1 X.2.1 X.2.2.2.2.2.2.1.2.2.2.1 hS (ixo_in hi) rfl hdg (k H lo la hP hS h)
theorem gx_t_own (X : gx_X p R s m args meth c D al cI cJ A own cc nL rt d cells slots) {i : Int32} (hi : ixo i 32 = true) (hdg : decode cc pc = .ok (.iaload, 1)) (k : gx_G p l e R s m args below meth c Q D al cI cJ A nL cells slots (pc + 1) (ls) (.int (tbI 101 i.toNatClampNeg) :: st) (g)) : gx_G p l e R s m args below meth c Q D al cI cJ A nL cells slots (pc) (ls) (.int i :: .ref (al 101) :: st) (g) := fun H lo la hP hS h => va_ti X.1 X.2.1 X.2.2.2.2.2.2.1.2.2.2.2.2 hS (ixo_in hi) rfl hdg (k H lo la hP hS h)
/-- the places of a copy lie within -/
def acp (sp n : Int32) (N : Nat) : Bool := decide (0 ≤ sp.toInt) && decide (0 ≤ n.toInt) && decide (sp.toInt + n.toInt ≤ (N : Int))
theorem acp_is {sp n : Int32} {N : Nat} (h : acp sp n N = true) : ¬ sp < 0 ∧ ¬ n < 0 ∧ sp.toNatClampNeg + n.toNatClampNeg ≤ N := by
  simp only [acp, Bool.and_eq_true, decide_eq_true_eq] at h
  have e1 : sp.toNatClampNeg = sp.toInt.toNat := rfl
  have e2 : n.toNatClampNeg = n.toInt.toNat := rfl
  refine ⟨fun q => ?_, fun q => ?_, by omega⟩
  · have := Int32.lt_iff_toInt_lt.mp q
    simp at this
    omega
  · have := Int32.lt_iff_toInt_lt.mp q
    simp at this
    omega
theorem gx_cpyI (X : gx_X p R s m args meth c D al cI cJ A own cc nL rt d cells slots) (a b na nb : Nat) {idx : Nat} {sp dp n : Int32} (hl : Cond.methodLink own idx arraycopyName ∈ gg_l) (hnat : Cond.native arraycopyName ∈ gg_l) (hstat : Cond.static arraycopyName ∈ gg_l) (hini : Cond.initialized "java/lang/System" ∈ gg_l) (hd : 1 ≤ d) (ha : a < 63) (hb : b < 63) (hca : cellE al cI cJ a (g.1 a) (g.2 a) = .inl (cI, na, .inl (g.1 a))) (hcb : ∀ r, cellE al cI cJ b r (g.2 b) = .inl (cI, nb, .inl r)) (h1 : acp sp n na = true) (h2 : acp dp n nb = true) (hW : (st.map fun v => v.category).sum ≤ 8) (hdg : decode cc pc = .ok (.invokestatic idx, 3)) (kk : gx_G p l e R s m args below meth c Q D al cI cJ A nL cells slots (pc + 3) (ls) (st) (cpI g a sp.toNatClampNeg b dp.toNatClampNeg n.toNatClampNeg)) : gx_G p l e R s m args below meth c Q D al cI cJ A nL cells slots (pc) (ls) (.int n :: .int dp :: .ref (al b) :: .int sp :: .ref (al a) :: st) (g) := by
  intro H lo la hP hS h
  obtain ⟨a1, a2, a3⟩ := acp_is h1
  obtain ⟨b1, b2, b3⟩ := acp_is h2
  have hR := X.2.2.2.2.2.2.2.1
  have hw : nativeFrameWords "java/lang/System" "arraycopy" 5 ≤ 30 := by decide +kernel
  refine va_copyi X.1 X.2.1 (X.2.2.1.trans h.1.symm) X.2.2.2.1 (X.2.2.2.2.1 _ hl) (X.2.2.2.2.1 _ hnat) (X.2.2.2.2.1 _ hstat) (X.2.2.2.2.1 _ hini) X.2.2.2.2.2.1 hP X.2.2.2.2.2.2.2.2.2.2.1.D hS a b 0 0 (ty := .int) (wld_is ha hca) (wld_is hb (hcb _)) rfl rfl rfl a1 b1 a2 a3 b3 (fun _ _ => rfl) (by omega) (by omega) hdg fun H1 lo1 hP1 _ hS1 => ?_
  refine kk H1 lo1 la ?_ hS1 h
  rw [(wld_set (g := g) (g' := cpI g a sp.toNatClampNeg b dp.toNatClampNeg n.toNatClampNeg) hb (by simp only [cpI, up_f, if_true]; exact hcb _) (fun j hj => by simp [cpI, up_f, hj]) (fun j hj => rfl))] at hP1
  exact hP1
theorem gx_cpyL (X : gx_X p R s m args meth c D al cI cJ A own cc nL rt d cells slots) (a b na nb : Nat) {idx : Nat} {sp dp n : Int32} (hl : Cond.methodLink own idx arraycopyName ∈ gg_l) (hnat : Cond.native arraycopyName ∈ gg_l) (hstat : Cond.static arraycopyName ∈ gg_l) (hini : Cond.initialized "java/lang/System" ∈ gg_l) (hd : 1 ≤ d) (ha : a < 63) (hb : b < 63) (hca : cellE al cI cJ a (g.1 a) (g.2 a) = .inl (cJ, na, .inr (.inl (g.2 a)))) (hcb : ∀ r, cellE al cI cJ b (g.1 b) r = .inl (cJ, nb, .inr (.inl r))) (h1 : acp sp n na = true) (h2 : acp dp n nb = true) (hW : (st.map fun v => v.category).sum ≤ 8) (hdg : decode cc pc = .ok (.invokestatic idx, 3)) (kk : gx_G p l e R s m args below meth c Q D al cI cJ A nL cells slots (pc + 3) (ls) (st) (cpL g a sp.toNatClampNeg b dp.toNatClampNeg n.toNatClampNeg)) : gx_G p l e R s m args below meth c Q D al cI cJ A nL cells slots (pc) (ls) (.int n :: .int dp :: .ref (al b) :: .int sp :: .ref (al a) :: st) (g) := by
  intro H lo la hP hS h
  obtain ⟨a1, a2, a3⟩ := acp_is h1
  obtain ⟨b1, b2, b3⟩ := acp_is h2
  have hR := X.2.2.2.2.2.2.2.1
  have hw : nativeFrameWords "java/lang/System" "arraycopy" 5 ≤ 30 := by decide +kernel
  refine va_copyl X.1 X.2.1 (X.2.2.1.trans h.1.symm) X.2.2.2.1 (X.2.2.2.2.1 _ hl) (X.2.2.2.2.1 _ hnat) (X.2.2.2.2.1 _ hstat) (X.2.2.2.2.1 _ hini) X.2.2.2.2.2.1 hP X.2.2.2.2.2.2.2.2.2.2.1.D hS a b 1 1 (ty := .long) (wld_is ha hca) (wld_is hb (hcb _)) rfl rfl rfl a1 b1 a2 a3 b3 (fun _ _ => rfl) (by omega) (by omega) hdg fun H1 lo1 hP1 _ hS1 => ?_
  refine kk H1 lo1 la ?_ hS1 h
  rw [(wld_set (g := g) (g' := cpL g a sp.toNatClampNeg b dp.toNatClampNeg n.toNatClampNeg) hb (by simp only [cpL, up_f, if_true]; exact hcb _) (fun j hj => rfl) (fun j hj => by simp [cpL, up_f, hj]))] at hP1
  exact hP1
theorem gx_alen (X : gx_X p R s m args meth c D al cI cJ A own cc nL rt d cells slots) (id n : Nat) {v : Int32} (hid : id < 63) (hc : cellE al cI cJ id (g.1 id) (g.2 id) = .inl (cI, n, .inl (g.1 id))) (hv : Int32.ofNat n = v) (hdg : decode cc pc = .ok (.arraylength, 1)) (kk : gx_G p l e R s m args below meth c Q D al cI cJ A nL cells slots (pc + 1) (ls) (.int v :: st) (g)) : gx_G p l e R s m args below meth c Q D al cI cJ A nL cells slots (pc) (ls) (.ref (al id) :: st) (g) := fun H lo la hP hS h => va_alen X.1 X.2.1 X.2.2.2.2.2.1 hP id 0 (wld_is hid hc) rfl hv hdg (kk H lo la hP hS h)
end GY
