section DC
variable {p : Program} {l : Launch} {e : Env} {R : Room} {s : State} {m : MethodId} {args : Array Value} {below : List Frame} {meth : Method} {c : Code} {D : va_G} {al : Nat → Nat} {cI cJ : ClassId} {A : Nat → Prop} {d : Nat}
theorem dX8_struck_0 : decode cX8_struck 0 = .ok (.aload_n 0, 1) := by decide +kernel
theorem dX8_struck_1 : decode cX8_struck 1 = .ok (.getfield 31, 3) := by decide +kernel
theorem dX8_struck_4 : decode cX8_struck 4 = .ok (.iload_n 1, 1) := by decide +kernel
theorem dX8_struck_5 : decode cX8_struck 5 = .ok (.bipush 6, 2) := by decide +kernel
theorem dX8_struck_7 : decode cX8_struck 7 = .ok (.imul, 1) := by decide +kernel
theorem dX8_struck_8 : decode cX8_struck 8 = .ok (.iload_n 2, 1) := by decide +kernel
theorem dX8_struck_9 : decode cX8_struck 9 = .ok (.iadd, 1) := by decide +kernel
theorem dX8_struck_10 : decode cX8_struck 10 = .ok (.iaload, 1) := by decide +kernel
theorem dX8_struck_11 : decode cX8_struck 11 = .ok (.ireturn, 1) := by decide +kernel
def m_X8_struck (a1 : Int32) (a2 : Int32) (g : Mm) : Option (Int32 × Mm) := gdd (ixo ((a1 * (6 : Int32)) + a2) 144) (some ((rdI g 5 ((a1 * (6 : Int32)) + a2).toNatClampNeg), g))
set_option maxHeartbeats 2000000 in
theorem c_X8_struck {r2 : Int32} {g g2 : Mm} {a1 : Int32} {a2 : Int32} (h : m_X8_struck a1 a2 g = some (r2, g2)) : gx_M 1 yX8_struck cX8_struck 3 (some .int) (fun al => [.ref (al (1)), .int (a1), .int (a2)]) g (some (.int r2)) g2 := by
  have hd : 1 ≤ 1 := Nat.le_refl _
  refine gx_M.of (by decide +kernel) (fun _ => Nat.le_of_ble_eq_true rfl) ?_
  intro p l e R s m args below meth c D al cI cJ A X
  refine gx_eq (pc' := 0) (ls' := [(0, .ref (al (1))), (1, .int (a1)), (2, .int (a2))]) (st' := []) (g' := g) ⟨rfl, rfl, rfl, rfl⟩ ?_
  unfold m_X8_struck at h
  refine gx_aload_n X 0 rfl dX8_struck_0 ?_
  refine gx_getf X (1) lf_X8_31 (by decide) (cl_1 _ _) (v := .ref (al (5))) rfl dX8_struck_1 ?_
  refine gx_iload_n X 1 rfl dX8_struck_4 ?_
  refine gx_bipush X (v := (6 : Int32)) dX8_struck_5 (by decide) ?_
  refine gx_imul X dX8_struck_7 ?_
  refine gx_iload_n X 2 rfl dX8_struck_8 ?_
  refine gx_iadd X dX8_struck_9 ?_
  obtain ⟨q1, h⟩ := gdd_eq h
  refine gx_iald X (5) 144 (by decide) (cl_5 _ _) q1 dX8_struck_10 ?_
  obtain ⟨rfl, rfl⟩ := ret_eq h
  exact gx_iret X rfl dX8_struck_11
theorem dX8_bellsUnlike_0 : decode cX8_bellsUnlike 0 = .ok (.iconst 0, 1) := by decide +kernel
theorem dX8_bellsUnlike_1 : decode cX8_bellsUnlike 1 = .ok (.istore_n 3, 1) := by decide +kernel
theorem dX8_bellsUnlike_2 : decode cX8_bellsUnlike 2 = .ok (.iconst 0, 1) := by decide +kernel
theorem dX8_bellsUnlike_3 : decode cX8_bellsUnlike 3 = .ok (.istore 4, 2) := by decide +kernel
theorem dX8_bellsUnlike_5 : decode cX8_bellsUnlike 5 = .ok (.iload 4, 2) := by decide +kernel
theorem dX8_bellsUnlike_7 : decode cX8_bellsUnlike 7 = .ok (.aload_n 0, 1) := by decide +kernel
theorem dX8_bellsUnlike_8 : decode cX8_bellsUnlike 8 = .ok (.getfield 9, 3) := by decide +kernel
theorem dX8_bellsUnlike_11 : decode cX8_bellsUnlike 11 = .ok (.if_icmp .ge 33, 3) := by decide +kernel
theorem dX8_bellsUnlike_14 : decode cX8_bellsUnlike 14 = .ok (.aload_n 0, 1) := by decide +kernel
theorem dX8_bellsUnlike_15 : decode cX8_bellsUnlike 15 = .ok (.iload_n 1, 1) := by decide +kernel
theorem dX8_bellsUnlike_16 : decode cX8_bellsUnlike 16 = .ok (.iload 4, 2) := by decide +kernel
theorem dX8_bellsUnlike_18 : decode cX8_bellsUnlike 18 = .ok (.invokevirtual 58, 3) := by decide +kernel
theorem dX8_bellsUnlike_21 : decode cX8_bellsUnlike 21 = .ok (.aload_n 0, 1) := by decide +kernel
theorem dX8_bellsUnlike_22 : decode cX8_bellsUnlike 22 = .ok (.iload_n 2, 1) := by decide +kernel
theorem dX8_bellsUnlike_23 : decode cX8_bellsUnlike 23 = .ok (.iload 4, 2) := by decide +kernel
theorem dX8_bellsUnlike_25 : decode cX8_bellsUnlike 25 = .ok (.invokevirtual 58, 3) := by decide +kernel
theorem dX8_bellsUnlike_28 : decode cX8_bellsUnlike 28 = .ok (.if_icmp .eq 10, 3) := by decide +kernel
theorem dX8_bellsUnlike_31 : decode cX8_bellsUnlike 31 = .ok (.iload_n 3, 1) := by decide +kernel
theorem dX8_bellsUnlike_32 : decode cX8_bellsUnlike 32 = .ok (.iconst 1, 1) := by decide +kernel
theorem dX8_bellsUnlike_33 : decode cX8_bellsUnlike 33 = .ok (.iload 4, 2) := by decide +kernel
theorem dX8_bellsUnlike_35 : decode cX8_bellsUnlike 35 = .ok (.ishl, 1) := by decide +kernel
theorem dX8_bellsUnlike_36 : decode cX8_bellsUnlike 36 = .ok (.ior, 1) := by decide +kernel
theorem dX8_bellsUnlike_37 : decode cX8_bellsUnlike 37 = .ok (.istore_n 3, 1) := by decide +kernel
theorem dX8_bellsUnlike_38 : decode cX8_bellsUnlike 38 = .ok (.iinc 4 1, 3) := by decide +kernel
theorem dX8_bellsUnlike_41 : decode cX8_bellsUnlike 41 = .ok (.goto (-36), 3) := by decide +kernel
theorem dX8_bellsUnlike_44 : decode cX8_bellsUnlike 44 = .ok (.iload_n 3, 1) := by decide +kernel
theorem dX8_bellsUnlike_45 : decode cX8_bellsUnlike 45 = .ok (.ireturn, 1) := by decide +kernel
def m_X8_bellsUnlike_5 : Nat → Int32 → Int32 → Int32 → Int32 → Mm → Option (Int32 × Mm)
  | 0, _, _, _, _, _ => none
  | n + 1, x1, x2, x3, x4, g => (if (rdI g 1 0) ≤ x4 then some (x3, g) else bdd (m_X8_struck x1 x4 g) (fun ra2 ga3 => bdd (m_X8_struck x2 x4 ga3) (fun ra5 ga6 => (if ra2 = ra5 then m_X8_bellsUnlike_5 n x1 x2 x3 (x4 + (1 : Int32)) ga6 else m_X8_bellsUnlike_5 n x1 x2 (x3 ||| (shlI (1 : Int32) x4)) (x4 + (1 : Int32)) ga6))))
set_option maxHeartbeats 2000000 in
theorem t_X8_bellsUnlike_5 {r2 : Int32} {g2 : Mm} (X : gx_X p R s m args meth c D al cI cJ A RX8 cX8_bellsUnlike 5 (some .int) d 0 0) (hd : 2 ≤ d) : ∀ (n : Nat) (x1 : Int32) (x2 : Int32) (x3 : Int32) (x4 : Int32) (g : Mm), m_X8_bellsUnlike_5 n x1 x2 x3 x4 g = some (r2, g2) → gx_G p l e R s m args below meth c (gx_Q below args s D al cI cJ A (some (.int r2)) g2) D al cI cJ A 5 0 0 5 [(0, .ref (al (1))), (1, .int (x1)), (2, .int (x2)), (3, .int (x3)), (4, .int (x4))] [] g := by
  intro n
  induction n with
  | zero => intro x1 x2 x3 x4 g h; cases h
  | succ n ih =>
    intro x1 x2 x3 x4 g h
    rw [m_X8_bellsUnlike_5] at h
    refine gx_iload X 4 rfl dX8_bellsUnlike_5 ?_
    refine gx_aload_n X 0 rfl dX8_bellsUnlike_7 ?_
    refine gx_getf X (1) lf_X8_9 (by decide) (cl_1 _ _) (v := .int ((rdI g 1 0))) rfl dX8_bellsUnlike_8 ?_
    refine gx_icmp_ge X 44 dX8_bellsUnlike_11 (by decide) (fun q1 => ?_) (fun q1 => ?_)
    · replace h := (if_pos q1).symm.trans h
      refine gx_iload_n X 3 rfl dX8_bellsUnlike_44 ?_
      obtain ⟨rfl, rfl⟩ := ret_eq h
      exact gx_iret X rfl dX8_bellsUnlike_45
    · replace h := (if_neg q1).symm.trans h
      refine gx_aload_n X 0 rfl dX8_bellsUnlike_14 ?_
      refine gx_iload_n X 1 rfl dX8_bellsUnlike_15 ?_
      refine gx_iload X 4 rfl dX8_bellsUnlike_16 ?_
      obtain ⟨ra2, ga3, ca4, h⟩ := bdd_eq h
      refine gx_callVi X (1) (c_X8_struck ca4) lc_X8_struck li_X8_struck lm_X8_58 (by decide) (cl_1 _ _) rfl rfl rfl (Nat.le_trans (by decide) hd) rfl (Nat.le_of_ble_eq_true rfl) dX8_bellsUnlike_18 ?_
      refine gx_aload_n X 0 rfl dX8_bellsUnlike_21 ?_
      refine gx_iload_n X 2 rfl dX8_bellsUnlike_22 ?_
      refine gx_iload X 4 rfl dX8_bellsUnlike_23 ?_
      obtain ⟨ra5, ga6, ca7, h⟩ := bdd_eq h
      refine gx_callVi X (1) (c_X8_struck ca7) lc_X8_struck li_X8_struck lm_X8_58 (by decide) (cl_1 _ _) rfl rfl rfl (Nat.le_trans (by decide) hd) rfl (Nat.le_of_ble_eq_true rfl) dX8_bellsUnlike_25 ?_
      refine gx_icmp_eq X 38 dX8_bellsUnlike_28 (by decide) (fun q8 => ?_) (fun q8 => ?_)
      · replace h := (if_pos q8).symm.trans h
        refine gx_iinc X [(4, .int ((x4 + (1 : Int32)))), (0, .ref (al (1))), (1, .int (x1)), (2, .int (x2)), (3, .int (x3))] 4 dX8_bellsUnlike_38 rfl rfl (by decide) rfl ?_
        refine gx_goto X 5 dX8_bellsUnlike_41 (by decide) ?_
        exact gx_sub [1, 2, 3, 4, 0] rfl (ih x1 x2 x3 (x4 + (1 : Int32)) ga6 h)
      · replace h := (if_neg q8).symm.trans h
        refine gx_iload_n X 3 rfl dX8_bellsUnlike_31 ?_
        refine gx_iconst X (v := (1 : Int32)) dX8_bellsUnlike_32 (by decide) ?_
        refine gx_iload X 4 rfl dX8_bellsUnlike_33 ?_
        refine gx_ishl X dX8_bellsUnlike_35 ?_
        refine gx_ior X dX8_bellsUnlike_36 ?_
        refine gx_istore_n X [(3, .int ((x3 ||| (shlI (1 : Int32) x4)))), (0, .ref (al (1))), (1, .int (x1)), (2, .int (x2)), (4, .int (x4))] dX8_bellsUnlike_37 (by decide) rfl ?_
        refine gx_iinc X [(4, .int ((x4 + (1 : Int32)))), (3, .int ((x3 ||| (shlI (1 : Int32) x4)))), (0, .ref (al (1))), (1, .int (x1)), (2, .int (x2))] 4 dX8_bellsUnlike_38 rfl rfl (by decide) rfl ?_
        refine gx_goto X 5 dX8_bellsUnlike_41 (by decide) ?_
        exact gx_sub [2, 3, 4, 1, 0] rfl (ih x1 x2 (x3 ||| (shlI (1 : Int32) x4)) (x4 + (1 : Int32)) ga6 h)
def m_X8_bellsUnlike (a1 : Int32) (a2 : Int32) (g : Mm) : Option (Int32 × Mm) := m_X8_bellsUnlike_5 fuL a1 a2 (0 : Int32) (0 : Int32) g
set_option maxHeartbeats 2000000 in
theorem c_X8_bellsUnlike {r2 : Int32} {g g2 : Mm} {a1 : Int32} {a2 : Int32} (h : m_X8_bellsUnlike a1 a2 g = some (r2, g2)) : gx_M 2 yX8_bellsUnlike cX8_bellsUnlike 5 (some .int) (fun al => [.ref (al (1)), .int (a1), .int (a2)]) g (some (.int r2)) g2 := by
  have hd : 2 ≤ 2 := Nat.le_refl _
  refine gx_M.of (by decide +kernel) (fun _ => Nat.le_of_ble_eq_true rfl) ?_
  intro p l e R s m args below meth c D al cI cJ A X
  refine gx_eq (pc' := 0) (ls' := [(0, .ref (al (1))), (1, .int (a1)), (2, .int (a2))]) (st' := []) (g' := g) ⟨rfl, rfl, rfl, rfl⟩ ?_
  unfold m_X8_bellsUnlike at h
  refine gx_iconst X (v := (0 : Int32)) dX8_bellsUnlike_0 (by decide) ?_
  refine gx_istore_n X [(3, .int ((0 : Int32))), (0, .ref (al (1))), (1, .int (a1)), (2, .int (a2))] dX8_bellsUnlike_1 (by decide) rfl ?_
  refine gx_iconst X (v := (0 : Int32)) dX8_bellsUnlike_2 (by decide) ?_
  refine gx_istore X [(4, .int ((0 : Int32))), (3, .int ((0 : Int32))), (0, .ref (al (1))), (1, .int (a1)), (2, .int (a2))] dX8_bellsUnlike_3 (by decide) rfl ?_
  exact gx_sub [2, 3, 4, 1, 0] rfl (t_X8_bellsUnlike_5 X hd fuL a1 a2 (0 : Int32) (0 : Int32) g h)
theorem dX8_areMixed_0 : decode cX8_areMixed 0 = .ok (.aload_n 0, 1) := by decide +kernel
theorem dX8_areMixed_1 : decode cX8_areMixed 1 = .ok (.getfield 34, 3) := by decide +kernel
theorem dX8_areMixed_4 : decode cX8_areMixed 4 = .ok (.iload_n 1, 1) := by decide +kernel
theorem dX8_areMixed_5 : decode cX8_areMixed 5 = .ok (.iaload, 1) := by decide +kernel
theorem dX8_areMixed_6 : decode cX8_areMixed 6 = .ok (.iload_n 2, 1) := by decide +kernel
theorem dX8_areMixed_7 : decode cX8_areMixed 7 = .ok (.ishr, 1) := by decide +kernel
theorem dX8_areMixed_8 : decode cX8_areMixed 8 = .ok (.iconst 1, 1) := by decide +kernel
theorem dX8_areMixed_9 : decode cX8_areMixed 9 = .ok (.iand, 1) := by decide +kernel
theorem dX8_areMixed_10 : decode cX8_areMixed 10 = .ok (.ifCond .eq 7, 3) := by decide +kernel
theorem dX8_areMixed_13 : decode cX8_areMixed 13 = .ok (.iconst 1, 1) := by decide +kernel
theorem dX8_areMixed_14 : decode cX8_areMixed 14 = .ok (.goto 4, 3) := by decide +kernel
theorem dX8_areMixed_17 : decode cX8_areMixed 17 = .ok (.iconst 0, 1) := by decide +kernel
theorem dX8_areMixed_18 : decode cX8_areMixed 18 = .ok (.ireturn, 1) := by decide +kernel
def m_X8_areMixed (a1 : Int32) (a2 : Int32) (g : Mm) : Option (Int32 × Mm) := gdd (ixo a1 24) ((if ((shrI (rdI g 6 a1.toNatClampNeg) a2) &&& (1 : Int32)) = (0 : Int32) then some ((0 : Int32), g) else some ((1 : Int32), g)))
set_option maxHeartbeats 2000000 in
theorem c_X8_areMixed {r2 : Int32} {g g2 : Mm} {a1 : Int32} {a2 : Int32} (h : m_X8_areMixed a1 a2 g = some (r2, g2)) : gx_M 1 yX8_areMixed cX8_areMixed 3 (some .boolean) (fun al => [.ref (al (1)), .int (a1), .int (a2)]) g (some (.int r2)) g2 := by
  have hd : 1 ≤ 1 := Nat.le_refl _
  refine gx_M.of (by decide +kernel) (fun _ => Nat.le_of_ble_eq_true rfl) ?_
  intro p l e R s m args below meth c D al cI cJ A X
  refine gx_eq (pc' := 0) (ls' := [(0, .ref (al (1))), (1, .int (a1)), (2, .int (a2))]) (st' := []) (g' := g) ⟨rfl, rfl, rfl, rfl⟩ ?_
  unfold m_X8_areMixed at h
  refine gx_aload_n X 0 rfl dX8_areMixed_0 ?_
  refine gx_getf X (1) lf_X8_34 (by decide) (cl_1 _ _) (v := .ref (al (6))) rfl dX8_areMixed_1 ?_
  refine gx_iload_n X 1 rfl dX8_areMixed_4 ?_
  obtain ⟨q1, h⟩ := gdd_eq h
  refine gx_iald X (6) 24 (by decide) (cl_6 _ _) q1 dX8_areMixed_5 ?_
  refine gx_iload_n X 2 rfl dX8_areMixed_6 ?_
  refine gx_ishr X dX8_areMixed_7 ?_
  refine gx_iconst X (v := (1 : Int32)) dX8_areMixed_8 (by decide) ?_
  refine gx_iand X dX8_areMixed_9 ?_
  refine gx_if_eq X 17 dX8_areMixed_10 (by decide) (fun q2 => ?_) (fun q2 => ?_)
  · replace h := (if_pos q2).symm.trans h
    refine gx_iconst X (v := (0 : Int32)) dX8_areMixed_17 (by decide) ?_
    obtain ⟨rfl, rfl⟩ := ret_eq h
    exact gx_iret X rfl dX8_areMixed_18
  · replace h := (if_neg q2).symm.trans h
    refine gx_iconst X (v := (1 : Int32)) dX8_areMixed_13 (by decide) ?_
    refine gx_goto X 18 dX8_areMixed_14 (by decide) ?_
    obtain ⟨rfl, rfl⟩ := ret_eq h
    exact gx_iret X rfl dX8_areMixed_18
theorem dX8_heardTogether_0 : decode cX8_heardTogether 0 = .ok (.aload_n 0, 1) := by decide +kernel
theorem dX8_heardTogether_1 : decode cX8_heardTogether 1 = .ok (.getfield 18, 3) := by decide +kernel
theorem dX8_heardTogether_4 : decode cX8_heardTogether 4 = .ok (.aload_n 0, 1) := by decide +kernel
theorem dX8_heardTogether_5 : decode cX8_heardTogether 5 = .ok (.getfield 9, 3) := by decide +kernel
theorem dX8_heardTogether_8 : decode cX8_heardTogether 8 = .ok (.invokestatic 48, 3) := by decide +kernel
theorem dX8_heardTogether_11 : decode cX8_heardTogether 11 = .ok (.ireturn, 1) := by decide +kernel
def m_X8_heardTogether (g : Mm) : Option (Int32 × Mm) := bdd (m_J9_min_7cf53 (rdI g 1 2) (rdI g 1 0) g) (fun ra1 ga2 => some (ra1, ga2))
set_option maxHeartbeats 2000000 in
theorem c_X8_heardTogether {r2 : Int32} {g g2 : Mm} (h : m_X8_heardTogether g = some (r2, g2)) : gx_M 2 yX8_heardTogether cX8_heardTogether 1 (some .int) (fun al => [.ref (al (1))]) g (some (.int r2)) g2 := by
  have hd : 2 ≤ 2 := Nat.le_refl _
  refine gx_M.of (by decide +kernel) (fun _ => Nat.le_of_ble_eq_true rfl) ?_
  intro p l e R s m args below meth c D al cI cJ A X
  refine gx_eq (pc' := 0) (ls' := [(0, .ref (al (1)))]) (st' := []) (g' := g) ⟨rfl, rfl, rfl, rfl⟩ ?_
  unfold m_X8_heardTogether at h
  refine gx_aload_n X 0 rfl dX8_heardTogether_0 ?_
  refine gx_getf X (1) lf_X8_18 (by decide) (cl_1 _ _) (v := .int ((rdI g 1 2))) rfl dX8_heardTogether_1 ?_
  refine gx_aload_n X 0 rfl dX8_heardTogether_4 ?_
  refine gx_getf X (1) lf_X8_9 (by decide) (cl_1 _ _) (v := .int ((rdI g 1 0))) rfl dX8_heardTogether_5 ?_
  obtain ⟨ra1, ga2, ca3, h⟩ := bdd_eq h
  refine gx_callSi X (c_J9_min_7cf53 ca3) lc_J9_min_7cf53 li_J9_min_7cf53 lm_X8_48 rfl rfl (Nat.le_trans (by decide) hd) rfl (Nat.le_of_ble_eq_true rfl) dX8_heardTogether_8 ?_
  obtain ⟨rfl, rfl⟩ := ret_eq h
  exact gx_iret X rfl dX8_heardTogether_11
theorem dX8_differencesWanted_0 : decode cX8_differencesWanted 0 = .ok (.aload_n 0, 1) := by decide +kernel
theorem dX8_differencesWanted_1 : decode cX8_differencesWanted 1 = .ok (.getfield 9, 3) := by decide +kernel
theorem dX8_differencesWanted_4 : decode cX8_differencesWanted 4 = .ok (.aload_n 0, 1) := by decide +kernel
theorem dX8_differencesWanted_5 : decode cX8_differencesWanted 5 = .ok (.invokevirtual 54, 3) := by decide +kernel
theorem dX8_differencesWanted_8 : decode cX8_differencesWanted 8 = .ok (.isub, 1) := by decide +kernel
theorem dX8_differencesWanted_9 : decode cX8_differencesWanted 9 = .ok (.iconst 1, 1) := by decide +kernel
theorem dX8_differencesWanted_10 : decode cX8_differencesWanted 10 = .ok (.iadd, 1) := by decide +kernel
theorem dX8_differencesWanted_11 : decode cX8_differencesWanted 11 = .ok (.ireturn, 1) := by decide +kernel
def m_X8_differencesWanted (g : Mm) : Option (Int32 × Mm) := bdd (m_X8_heardTogether  g) (fun ra1 ga2 => some ((((rdI g 1 0) - ra1) + (1 : Int32)), ga2))
set_option maxHeartbeats 2000000 in
theorem c_X8_differencesWanted {r2 : Int32} {g g2 : Mm} (h : m_X8_differencesWanted g = some (r2, g2)) : gx_M 3 yX8_differencesWanted cX8_differencesWanted 1 (some .int) (fun al => [.ref (al (1))]) g (some (.int r2)) g2 := by
  have hd : 3 ≤ 3 := Nat.le_refl _
  refine gx_M.of (by decide +kernel) (fun _ => Nat.le_of_ble_eq_true rfl) ?_
  intro p l e R s m args below meth c D al cI cJ A X
  refine gx_eq (pc' := 0) (ls' := [(0, .ref (al (1)))]) (st' := []) (g' := g) ⟨rfl, rfl, rfl, rfl⟩ ?_
  unfold m_X8_differencesWanted at h
  refine gx_aload_n X 0 rfl dX8_differencesWanted_0 ?_
  refine gx_getf X (1) lf_X8_9 (by decide) (cl_1 _ _) (v := .int ((rdI g 1 0))) rfl dX8_differencesWanted_1 ?_
  refine gx_aload_n X 0 rfl dX8_differencesWanted_4 ?_
  obtain ⟨ra1, ga2, ca3, h⟩ := bdd_eq h
  refine gx_callVi X (1) (c_X8_heardTogether ca3) lc_X8_heardTogether li_X8_heardTogether lm_X8_54 (by decide) (cl_1 _ _) rfl rfl rfl (Nat.le_trans (by decide) hd) rfl (Nat.le_of_ble_eq_true rfl) dX8_differencesWanted_5 ?_
  refine gx_isub X dX8_differencesWanted_8 ?_
  refine gx_iconst X (v := (1 : Int32)) dX8_differencesWanted_9 (by decide) ?_
  refine gx_iadd X dX8_differencesWanted_10 ?_
  obtain ⟨rfl, rfl⟩ := ret_eq h
  exact gx_iret X rfl dX8_differencesWanted_11
theorem dX8_allBells_0 : decode cX8_allBells 0 = .ok (.iconst 1, 1) := by decide +kernel
theorem dX8_allBells_1 : decode cX8_allBells 1 = .ok (.aload_n 0, 1) := by decide +kernel
theorem dX8_allBells_2 : decode cX8_allBells 2 = .ok (.getfield 9, 3) := by decide +kernel
theorem dX8_allBells_5 : decode cX8_allBells 5 = .ok (.ishl, 1) := by decide +kernel
theorem dX8_allBells_6 : decode cX8_allBells 6 = .ok (.iconst 1, 1) := by decide +kernel
theorem dX8_allBells_7 : decode cX8_allBells 7 = .ok (.isub, 1) := by decide +kernel
theorem dX8_allBells_8 : decode cX8_allBells 8 = .ok (.ireturn, 1) := by decide +kernel
def m_X8_allBells (g : Mm) : Option (Int32 × Mm) := some (((shlI (1 : Int32) (rdI g 1 0)) - (1 : Int32)), g)
set_option maxHeartbeats 2000000 in
theorem c_X8_allBells {r2 : Int32} {g g2 : Mm} (h : m_X8_allBells g = some (r2, g2)) : gx_M 1 yX8_allBells cX8_allBells 1 (some .int) (fun al => [.ref (al (1))]) g (some (.int r2)) g2 := by
  have hd : 1 ≤ 1 := Nat.le_refl _
  refine gx_M.of (by decide +kernel) (fun _ => Nat.le_of_ble_eq_true rfl) ?_
  intro p l e R s m args below meth c D al cI cJ A X
  refine gx_eq (pc' := 0) (ls' := [(0, .ref (al (1)))]) (st' := []) (g' := g) ⟨rfl, rfl, rfl, rfl⟩ ?_
  unfold m_X8_allBells at h
  refine gx_iconst X (v := (1 : Int32)) dX8_allBells_0 (by decide) ?_
  refine gx_aload_n X 0 rfl dX8_allBells_1 ?_
  refine gx_getf X (1) lf_X8_9 (by decide) (cl_1 _ _) (v := .int ((rdI g 1 0))) rfl dX8_allBells_2 ?_
  refine gx_ishl X dX8_allBells_5 ?_
  refine gx_iconst X (v := (1 : Int32)) dX8_allBells_6 (by decide) ?_
  refine gx_isub X dX8_allBells_7 ?_
  obtain ⟨rfl, rfl⟩ := ret_eq h
  exact gx_iret X rfl dX8_allBells_8
theorem dX8_addBell_0 : decode cX8_addBell 0 = .ok (.aload_n 0, 1) := by decide +kernel
theorem dX8_addBell_1 : decode cX8_addBell 1 = .ok (.getfield 21, 3) := by decide +kernel
theorem dX8_addBell_4 : decode cX8_addBell 4 = .ok (.aload_n 0, 1) := by decide +kernel
theorem dX8_addBell_5 : decode cX8_addBell 5 = .ok (.getfield 9, 3) := by decide +kernel
theorem dX8_addBell_8 : decode cX8_addBell 8 = .ok (.iload_n 1, 1) := by decide +kernel
theorem dX8_addBell_9 : decode cX8_addBell 9 = .ok (.iastore, 1) := by decide +kernel
theorem dX8_addBell_10 : decode cX8_addBell 10 = .ok (.aload_n 0, 1) := by decide +kernel
theorem dX8_addBell_11 : decode cX8_addBell 11 = .ok (.getfield 25, 3) := by decide +kernel
theorem dX8_addBell_14 : decode cX8_addBell 14 = .ok (.aload_n 0, 1) := by decide +kernel
theorem dX8_addBell_15 : decode cX8_addBell 15 = .ok (.getfield 9, 3) := by decide +kernel
theorem dX8_addBell_18 : decode cX8_addBell 18 = .ok (.iload_n 2, 1) := by decide +kernel
theorem dX8_addBell_19 : decode cX8_addBell 19 = .ok (.iastore, 1) := by decide +kernel
theorem dX8_addBell_20 : decode cX8_addBell 20 = .ok (.aload_n 0, 1) := by decide +kernel
theorem dX8_addBell_21 : decode cX8_addBell 21 = .ok (.getfield 28, 3) := by decide +kernel
theorem dX8_addBell_24 : decode cX8_addBell 24 = .ok (.aload_n 0, 1) := by decide +kernel
theorem dX8_addBell_25 : decode cX8_addBell 25 = .ok (.getfield 9, 3) := by decide +kernel
theorem dX8_addBell_28 : decode cX8_addBell 28 = .ok (.iload_n 3, 1) := by decide +kernel
theorem dX8_addBell_29 : decode cX8_addBell 29 = .ok (.iastore, 1) := by decide +kernel
theorem dX8_addBell_30 : decode cX8_addBell 30 = .ok (.aload_n 0, 1) := by decide +kernel
theorem dX8_addBell_31 : decode cX8_addBell 31 = .ok (.dup, 1) := by decide +kernel
theorem dX8_addBell_32 : decode cX8_addBell 32 = .ok (.getfield 9, 3) := by decide +kernel
theorem dX8_addBell_35 : decode cX8_addBell 35 = .ok (.iconst 1, 1) := by decide +kernel
theorem dX8_addBell_36 : decode cX8_addBell 36 = .ok (.iadd, 1) := by decide +kernel
theorem dX8_addBell_37 : decode cX8_addBell 37 = .ok (.putfield 9, 3) := by decide +kernel
theorem dX8_addBell_40 : decode cX8_addBell 40 = .ok (.aload_n 0, 1) := by decide +kernel
theorem dX8_addBell_41 : decode cX8_addBell 41 = .ok (.getfield 9, 3) := by decide +kernel
theorem dX8_addBell_44 : decode cX8_addBell 44 = .ok (.iconst 1, 1) := by decide +kernel
theorem dX8_addBell_45 : decode cX8_addBell 45 = .ok (.isub, 1) := by decide +kernel
theorem dX8_addBell_46 : decode cX8_addBell 46 = .ok (.ireturn, 1) := by decide +kernel
def m_X8_addBell (a1 : Int32) (a2 : Int32) (a3 : Int32) (g : Mm) : Option (Int32 × Mm) := gdd (ixo (rdI g 1 0) 6) (gdd (ixo (rdI (wrI g 2 (rdI g 1 0).toNatClampNeg a1) 1 0) 6) (gdd (ixo (rdI (wrI (wrI g 2 (rdI g 1 0).toNatClampNeg a1) 3 (rdI (wrI g 2 (rdI g 1 0).toNatClampNeg a1) 1 0).toNatClampNeg a2) 1 0) 6) (some (((rdI (wrI (wrI (wrI (wrI g 2 (rdI g 1 0).toNatClampNeg a1) 3 (rdI (wrI g 2 (rdI g 1 0).toNatClampNeg a1) 1 0).toNatClampNeg a2) 4 (rdI (wrI (wrI g 2 (rdI g 1 0).toNatClampNeg a1) 3 (rdI (wrI g 2 (rdI g 1 0).toNatClampNeg a1) 1 0).toNatClampNeg a2) 1 0).toNatClampNeg a3) 1 0 ((rdI (wrI (wrI (wrI g 2 (rdI g 1 0).toNatClampNeg a1) 3 (rdI (wrI g 2 (rdI g 1 0).toNatClampNeg a1) 1 0).toNatClampNeg a2) 4 (rdI (wrI (wrI g 2 (rdI g 1 0).toNatClampNeg a1) 3 (rdI (wrI g 2 (rdI g 1 0).toNatClampNeg a1) 1 0).toNatClampNeg a2) 1 0).toNatClampNeg a3) 1 0) + (1 : Int32))) 1 0) - (1 : Int32)), (wrI (wrI (wrI (wrI g 2 (rdI g 1 0).toNatClampNeg a1) 3 (rdI (wrI g 2 (rdI g 1 0).toNatClampNeg a1) 1 0).toNatClampNeg a2) 4 (rdI (wrI (wrI g 2 (rdI g 1 0).toNatClampNeg a1) 3 (rdI (wrI g 2 (rdI g 1 0).toNatClampNeg a1) 1 0).toNatClampNeg a2) 1 0).toNatClampNeg a3) 1 0 ((rdI (wrI (wrI (wrI g 2 (rdI g 1 0).toNatClampNeg a1) 3 (rdI (wrI g 2 (rdI g 1 0).toNatClampNeg a1) 1 0).toNatClampNeg a2) 4 (rdI (wrI (wrI g 2 (rdI g 1 0).toNatClampNeg a1) 3 (rdI (wrI g 2 (rdI g 1 0).toNatClampNeg a1) 1 0).toNatClampNeg a2) 1 0).toNatClampNeg a3) 1 0) + (1 : Int32)))))))
set_option maxHeartbeats 2000000 in
theorem c_X8_addBell {r2 : Int32} {g g2 : Mm} {a1 : Int32} {a2 : Int32} {a3 : Int32} (h : m_X8_addBell a1 a2 a3 g = some (r2, g2)) : gx_M 1 yX8_addBell cX8_addBell 4 (some .int) (fun al => [.ref (al (1)), .int (a1), .int (a2), .int (a3)]) g (some (.int r2)) g2 := by
  have hd : 1 ≤ 1 := Nat.le_refl _
  refine gx_M.of (by decide +kernel) (fun _ => Nat.le_of_ble_eq_true rfl) ?_
  intro p l e R s m args below meth c D al cI cJ A X
  refine gx_eq (pc' := 0) (ls' := [(0, .ref (al (1))), (1, .int (a1)), (2, .int (a2)), (3, .int (a3))]) (st' := []) (g' := g) ⟨rfl, rfl, rfl, rfl⟩ ?_
  unfold m_X8_addBell at h
  refine gx_aload_n X 0 rfl dX8_addBell_0 ?_
  refine gx_getf X (1) lf_X8_21 (by decide) (cl_1 _ _) (v := .ref (al (2))) rfl dX8_addBell_1 ?_
  refine gx_aload_n X 0 rfl dX8_addBell_4 ?_
  refine gx_getf X (1) lf_X8_9 (by decide) (cl_1 _ _) (v := .int ((rdI g 1 0))) rfl dX8_addBell_5 ?_
  refine gx_iload_n X 1 rfl dX8_addBell_8 ?_
  obtain ⟨q1, h⟩ := gdd_eq h
  refine gx_iast X (2) 6 (by decide) (fun r => cl_2 r _) q1 dX8_addBell_9 ?_
  refine gx_aload_n X 0 rfl dX8_addBell_10 ?_
  refine gx_getf X (1) lf_X8_25 (by decide) (cl_1 _ _) (v := .ref (al (3))) rfl dX8_addBell_11 ?_
  refine gx_aload_n X 0 rfl dX8_addBell_14 ?_
  refine gx_getf X (1) lf_X8_9 (by decide) (cl_1 _ _) (v := .int ((rdI (wrI g 2 (rdI g 1 0).toNatClampNeg a1) 1 0))) rfl dX8_addBell_15 ?_
  refine gx_iload_n X 2 rfl dX8_addBell_18 ?_
  obtain ⟨q2, h⟩ := gdd_eq h
  refine gx_iast X (3) 6 (by decide) (fun r => cl_3 r _) q2 dX8_addBell_19 ?_
  refine gx_aload_n X 0 rfl dX8_addBell_20 ?_
  refine gx_getf X (1) lf_X8_28 (by decide) (cl_1 _ _) (v := .ref (al (4))) rfl dX8_addBell_21 ?_
  refine gx_aload_n X 0 rfl dX8_addBell_24 ?_
  refine gx_getf X (1) lf_X8_9 (by decide) (cl_1 _ _) (v := .int ((rdI (wrI (wrI g 2 (rdI g 1 0).toNatClampNeg a1) 3 (rdI (wrI g 2 (rdI g 1 0).toNatClampNeg a1) 1 0).toNatClampNeg a2) 1 0))) rfl dX8_addBell_25 ?_
  refine gx_iload_n X 3 rfl dX8_addBell_28 ?_
  obtain ⟨q3, h⟩ := gdd_eq h
  refine gx_iast X (4) 6 (by decide) (fun r => cl_4 r _) q3 dX8_addBell_29 ?_
  refine gx_aload_n X 0 rfl dX8_addBell_30 ?_
  refine gx_dup X dX8_addBell_31 rfl ?_
  refine gx_getf X (1) lf_X8_9 (by decide) (cl_1 _ _) (v := .int ((rdI (wrI (wrI (wrI g 2 (rdI g 1 0).toNatClampNeg a1) 3 (rdI (wrI g 2 (rdI g 1 0).toNatClampNeg a1) 1 0).toNatClampNeg a2) 4 (rdI (wrI (wrI g 2 (rdI g 1 0).toNatClampNeg a1) 3 (rdI (wrI g 2 (rdI g 1 0).toNatClampNeg a1) 1 0).toNatClampNeg a2) 1 0).toNatClampNeg a3) 1 0))) rfl dX8_addBell_32 ?_
  refine gx_iconst X (v := (1 : Int32)) dX8_addBell_35 (by decide) ?_
  refine gx_iadd X dX8_addBell_36 ?_
  refine gx_putf X (1) ((rdI (wrI (wrI (wrI g 2 (rdI g 1 0).toNatClampNeg a1) 3 (rdI (wrI g 2 (rdI g 1 0).toNatClampNeg a1) 1 0).toNatClampNeg a2) 4 (rdI (wrI (wrI g 2 (rdI g 1 0).toNatClampNeg a1) 3 (rdI (wrI g 2 (rdI g 1 0).toNatClampNeg a1) 1 0).toNatClampNeg a2) 1 0).toNatClampNeg a3) 1 0) + (1 : Int32)) lf_X8_9 lp_X8_0 (by decide) (cl_1 _ _) (Nat.le_of_ble_eq_true rfl) rfl rfl rfl dX8_addBell_37 ?_
  refine gx_aload_n X 0 rfl dX8_addBell_40 ?_
  refine gx_getf X (1) lf_X8_9 (by decide) (cl_1 _ _) (v := .int ((rdI (wrI (wrI (wrI (wrI g 2 (rdI g 1 0).toNatClampNeg a1) 3 (rdI (wrI g 2 (rdI g 1 0).toNatClampNeg a1) 1 0).toNatClampNeg a2) 4 (rdI (wrI (wrI g 2 (rdI g 1 0).toNatClampNeg a1) 3 (rdI (wrI g 2 (rdI g 1 0).toNatClampNeg a1) 1 0).toNatClampNeg a2) 1 0).toNatClampNeg a3) 1 0 ((rdI (wrI (wrI (wrI g 2 (rdI g 1 0).toNatClampNeg a1) 3 (rdI (wrI g 2 (rdI g 1 0).toNatClampNeg a1) 1 0).toNatClampNeg a2) 4 (rdI (wrI (wrI g 2 (rdI g 1 0).toNatClampNeg a1) 3 (rdI (wrI g 2 (rdI g 1 0).toNatClampNeg a1) 1 0).toNatClampNeg a2) 1 0).toNatClampNeg a3) 1 0) + (1 : Int32))) 1 0))) rfl dX8_addBell_41 ?_
  refine gx_iconst X (v := (1 : Int32)) dX8_addBell_44 (by decide) ?_
  refine gx_isub X dX8_addBell_45 ?_
  obtain ⟨rfl, rfl⟩ := ret_eq h
  exact gx_iret X rfl dX8_addBell_46
theorem dX8_write_0 : decode cX8_write 0 = .ok (.aload_n 0, 1) := by decide +kernel
theorem dX8_write_1 : decode cX8_write 1 = .ok (.getfield 31, 3) := by decide +kernel
theorem dX8_write_4 : decode cX8_write 4 = .ok (.iload_n 1, 1) := by decide +kernel
theorem dX8_write_5 : decode cX8_write 5 = .ok (.bipush 6, 2) := by decide +kernel
theorem dX8_write_7 : decode cX8_write 7 = .ok (.imul, 1) := by decide +kernel
theorem dX8_write_8 : decode cX8_write 8 = .ok (.iload_n 2, 1) := by decide +kernel
theorem dX8_write_9 : decode cX8_write 9 = .ok (.iadd, 1) := by decide +kernel
theorem dX8_write_10 : decode cX8_write 10 = .ok (.iload_n 3, 1) := by decide +kernel
theorem dX8_write_11 : decode cX8_write 11 = .ok (.iastore, 1) := by decide +kernel
theorem dX8_write_12 : decode cX8_write 12 = .ok (.return_, 1) := by decide +kernel
def m_X8_write (a1 : Int32) (a2 : Int32) (a3 : Int32) (g : Mm) : Option (Int32 × Mm) := gdd (ixo ((a1 * (6 : Int32)) + a2) 144) (some ((0 : Int32), (wrI g 5 ((a1 * (6 : Int32)) + a2).toNatClampNeg a3)))
set_option maxHeartbeats 2000000 in
theorem c_X8_write {r2 : Int32} {g g2 : Mm} {a1 : Int32} {a2 : Int32} {a3 : Int32} (h : m_X8_write a1 a2 a3 g = some (r2, g2)) : gx_M 1 yX8_write cX8_write 4 none (fun al => [.ref (al (1)), .int (a1), .int (a2), .int (a3)]) g none g2 := by
  have hd : 1 ≤ 1 := Nat.le_refl _
  refine gx_M.of (by decide +kernel) (fun _ => Nat.le_of_ble_eq_true rfl) ?_
  intro p l e R s m args below meth c D al cI cJ A X
  refine gx_eq (pc' := 0) (ls' := [(0, .ref (al (1))), (1, .int (a1)), (2, .int (a2)), (3, .int (a3))]) (st' := []) (g' := g) ⟨rfl, rfl, rfl, rfl⟩ ?_
  unfold m_X8_write at h
  refine gx_aload_n X 0 rfl dX8_write_0 ?_
  refine gx_getf X (1) lf_X8_31 (by decide) (cl_1 _ _) (v := .ref (al (5))) rfl dX8_write_1 ?_
  refine gx_iload_n X 1 rfl dX8_write_4 ?_
  refine gx_bipush X (v := (6 : Int32)) dX8_write_5 (by decide) ?_
  refine gx_imul X dX8_write_7 ?_
  refine gx_iload_n X 2 rfl dX8_write_8 ?_
  refine gx_iadd X dX8_write_9 ?_
  refine gx_iload_n X 3 rfl dX8_write_10 ?_
  obtain ⟨q1, h⟩ := gdd_eq h
  refine gx_iast X (5) 144 (by decide) (fun r => cl_5 r _) q1 dX8_write_11 ?_
  obtain ⟨rfl, rfl⟩ := ret_eq h
  exact gx_vret X dX8_write_12
theorem dX8_changeHours_0 : decode cX8_changeHours 0 = .ok (.iconst 1, 1) := by decide +kernel
theorem dX8_changeHours_1 : decode cX8_changeHours 1 = .ok (.iload_n 1, 1) := by decide +kernel
theorem dX8_changeHours_2 : decode cX8_changeHours 2 = .ok (.ishl, 1) := by decide +kernel
theorem dX8_changeHours_3 : decode cX8_changeHours 3 = .ok (.iconst 1, 1) := by decide +kernel
theorem dX8_changeHours_4 : decode cX8_changeHours 4 = .ok (.isub, 1) := by decide +kernel
theorem dX8_changeHours_5 : decode cX8_changeHours 5 = .ok (.istore_n 2, 1) := by decide +kernel
theorem dX8_changeHours_6 : decode cX8_changeHours 6 = .ok (.iconst 0, 1) := by decide +kernel
theorem dX8_changeHours_7 : decode cX8_changeHours 7 = .ok (.istore_n 3, 1) := by decide +kernel
theorem dX8_changeHours_8 : decode cX8_changeHours 8 = .ok (.iload_n 3, 1) := by decide +kernel
theorem dX8_changeHours_9 : decode cX8_changeHours 9 = .ok (.bipush 24, 2) := by decide +kernel
theorem dX8_changeHours_11 : decode cX8_changeHours 11 = .ok (.if_icmp .ge 61, 3) := by decide +kernel
theorem dX8_changeHours_14 : decode cX8_changeHours 14 = .ok (.aload_n 0, 1) := by decide +kernel
theorem dX8_changeHours_15 : decode cX8_changeHours 15 = .ok (.getfield 34, 3) := by decide +kernel
theorem dX8_changeHours_18 : decode cX8_changeHours 18 = .ok (.iload_n 3, 1) := by decide +kernel
theorem dX8_changeHours_19 : decode cX8_changeHours 19 = .ok (.iload_n 3, 1) := by decide +kernel
theorem dX8_changeHours_20 : decode cX8_changeHours 20 = .ok (.iload_n 1, 1) := by decide +kernel
theorem dX8_changeHours_21 : decode cX8_changeHours 21 = .ok (.if_icmp .ge 14, 3) := by decide +kernel
theorem dX8_changeHours_24 : decode cX8_changeHours 24 = .ok (.aload_n 0, 1) := by decide +kernel
theorem dX8_changeHours_25 : decode cX8_changeHours 25 = .ok (.getfield 34, 3) := by decide +kernel
theorem dX8_changeHours_28 : decode cX8_changeHours 28 = .ok (.iload_n 3, 1) := by decide +kernel
theorem dX8_changeHours_29 : decode cX8_changeHours 29 = .ok (.iaload, 1) := by decide +kernel
theorem dX8_changeHours_30 : decode cX8_changeHours 30 = .ok (.iload_n 2, 1) := by decide +kernel
theorem dX8_changeHours_31 : decode cX8_changeHours 31 = .ok (.iand, 1) := by decide +kernel
theorem dX8_changeHours_32 : decode cX8_changeHours 32 = .ok (.goto 4, 3) := by decide +kernel
theorem dX8_changeHours_35 : decode cX8_changeHours 35 = .ok (.iconst 0, 1) := by decide +kernel
theorem dX8_changeHours_36 : decode cX8_changeHours 36 = .ok (.iastore, 1) := by decide +kernel
theorem dX8_changeHours_37 : decode cX8_changeHours 37 = .ok (.iconst 0, 1) := by decide +kernel
theorem dX8_changeHours_38 : decode cX8_changeHours 38 = .ok (.istore 4, 2) := by decide +kernel
theorem dX8_changeHours_40 : decode cX8_changeHours 40 = .ok (.iload_n 3, 1) := by decide +kernel
theorem dX8_changeHours_41 : decode cX8_changeHours 41 = .ok (.iload_n 1, 1) := by decide +kernel
theorem dX8_changeHours_42 : decode cX8_changeHours 42 = .ok (.if_icmp .lt 24, 3) := by decide +kernel
theorem dX8_changeHours_45 : decode cX8_changeHours 45 = .ok (.iload 4, 2) := by decide +kernel
theorem dX8_changeHours_47 : decode cX8_changeHours 47 = .ok (.bipush 6, 2) := by decide +kernel
theorem dX8_changeHours_49 : decode cX8_changeHours 49 = .ok (.if_icmp .ge 17, 3) := by decide +kernel
theorem dX8_changeHours_52 : decode cX8_changeHours 52 = .ok (.aload_n 0, 1) := by decide +kernel
theorem dX8_changeHours_53 : decode cX8_changeHours 53 = .ok (.iload_n 3, 1) := by decide +kernel
theorem dX8_changeHours_54 : decode cX8_changeHours 54 = .ok (.iload 4, 2) := by decide +kernel
theorem dX8_changeHours_56 : decode cX8_changeHours 56 = .ok (.iconst 0, 1) := by decide +kernel
theorem dX8_changeHours_57 : decode cX8_changeHours 57 = .ok (.invokevirtual 44, 3) := by decide +kernel
theorem dX8_changeHours_60 : decode cX8_changeHours 60 = .ok (.iinc 4 1, 3) := by decide +kernel
theorem dX8_changeHours_63 : decode cX8_changeHours 63 = .ok (.goto (-23), 3) := by decide +kernel
theorem dX8_changeHours_66 : decode cX8_changeHours 66 = .ok (.iinc 3 1, 3) := by decide +kernel
theorem dX8_changeHours_69 : decode cX8_changeHours 69 = .ok (.goto (-61), 3) := by decide +kernel
theorem dX8_changeHours_72 : decode cX8_changeHours 72 = .ok (.aload_n 0, 1) := by decide +kernel
theorem dX8_changeHours_73 : decode cX8_changeHours 73 = .ok (.iload_n 1, 1) := by decide +kernel
theorem dX8_changeHours_74 : decode cX8_changeHours 74 = .ok (.putfield 15, 3) := by decide +kernel
theorem dX8_changeHours_77 : decode cX8_changeHours 77 = .ok (.return_, 1) := by decide +kernel
def m_X8_changeHours_40 (K8 : Int32 → Int32 → Int32 → Mm → Option (Int32 × Mm)) : Nat → Int32 → Int32 → Int32 → Int32 → Mm → Option (Int32 × Mm)
  | 0, _, _, _, _, _ => none
  | n + 1, x1, x2, x3, x4, g => (if x3 < x1 then K8 x1 x2 (x3 + (1 : Int32)) g else (if (6 : Int32) ≤ x4 then K8 x1 x2 (x3 + (1 : Int32)) g else bdd (m_X8_write x3 x4 (0 : Int32) g) (fun ra3 ga4 => m_X8_changeHours_40 K8 n x1 x2 x3 (x4 + (1 : Int32)) ga4)))
set_option maxHeartbeats 2000000 in
theorem t_X8_changeHours_40 {r2 : Int32} {g2 : Mm} (X : gx_X p R s m args meth c D al cI cJ A RX8 cX8_changeHours 5 none d 0 0) (hd : 2 ≤ d) {K8 : Int32 → Int32 → Int32 → Mm → Option (Int32 × Mm)} (hK8 : ∀ (u0 : Int32) (u1 : Int32) (u2 : Int32) (g : Mm), K8 u0 u1 u2 g = some (r2, g2) → gx_G p l e R s m args below meth c (gx_Q below args s D al cI cJ A none g2) D al cI cJ A 5 0 0 8 [(0, .ref (al (1))), (1, .int (u0)), (2, .int (u1)), (3, .int (u2))] [] g) : ∀ (n : Nat) (x1 : Int32) (x2 : Int32) (x3 : Int32) (x4 : Int32) (g : Mm), m_X8_changeHours_40 K8 n x1 x2 x3 x4 g = some (r2, g2) → gx_G p l e R s m args below meth c (gx_Q below args s D al cI cJ A none g2) D al cI cJ A 5 0 0 40 [(0, .ref (al (1))), (1, .int (x1)), (2, .int (x2)), (3, .int (x3)), (4, .int (x4))] [] g := by
  intro n
  induction n with
  | zero => intro x1 x2 x3 x4 g h; cases h
  | succ n ih =>
    intro x1 x2 x3 x4 g h
    rw [m_X8_changeHours_40] at h
    refine gx_iload_n X 3 rfl dX8_changeHours_40 ?_
    refine gx_iload_n X 1 rfl dX8_changeHours_41 ?_
    refine gx_icmp_lt X 66 dX8_changeHours_42 (by decide) (fun q1 => ?_) (fun q1 => ?_)
    · replace h := (if_pos q1).symm.trans h
      refine gx_iinc X [(3, .int ((x3 + (1 : Int32)))), (0, .ref (al (1))), (1, .int (x1)), (2, .int (x2)), (4, .int (x4))] 3 dX8_changeHours_66 rfl rfl (by decide) rfl ?_
      refine gx_goto X 8 dX8_changeHours_69 (by decide) ?_
      exact gx_sub [1, 2, 3, 0] rfl (hK8 x1 x2 (x3 + (1 : Int32)) g h)
    · replace h := (if_neg q1).symm.trans h
      refine gx_iload X 4 rfl dX8_changeHours_45 ?_
      refine gx_bipush X (v := (6 : Int32)) dX8_changeHours_47 (by decide) ?_
      refine gx_icmp_ge X 66 dX8_changeHours_49 (by decide) (fun q2 => ?_) (fun q2 => ?_)
      · replace h := (if_pos q2).symm.trans h
        refine gx_iinc X [(3, .int ((x3 + (1 : Int32)))), (0, .ref (al (1))), (1, .int (x1)), (2, .int (x2)), (4, .int (x4))] 3 dX8_changeHours_66 rfl rfl (by decide) rfl ?_
        refine gx_goto X 8 dX8_changeHours_69 (by decide) ?_
        exact gx_sub [1, 2, 3, 0] rfl (hK8 x1 x2 (x3 + (1 : Int32)) g h)
      · replace h := (if_neg q2).symm.trans h
        refine gx_aload_n X 0 rfl dX8_changeHours_52 ?_
        refine gx_iload_n X 3 rfl dX8_changeHours_53 ?_
        refine gx_iload X 4 rfl dX8_changeHours_54 ?_
        refine gx_iconst X (v := (0 : Int32)) dX8_changeHours_56 (by decide) ?_
        obtain ⟨ra3, ga4, ca5, h⟩ := bdd_eq h
        refine gx_callVv X (1) (c_X8_write ca5) lc_X8_write li_X8_write lm_X8_44 (by decide) (cl_1 _ _) rfl rfl rfl (Nat.le_trans (by decide) hd) rfl (Nat.le_of_ble_eq_true rfl) dX8_changeHours_57 ?_
        refine gx_iinc X [(4, .int ((x4 + (1 : Int32)))), (0, .ref (al (1))), (1, .int (x1)), (2, .int (x2)), (3, .int (x3))] 4 dX8_changeHours_60 rfl rfl (by decide) rfl ?_
        refine gx_goto X 40 dX8_changeHours_63 (by decide) ?_
        exact gx_sub [1, 2, 3, 4, 0] rfl (ih x1 x2 x3 (x4 + (1 : Int32)) ga4 h)
def m_X8_changeHours_8 : Nat → Int32 → Int32 → Int32 → Mm → Option (Int32 × Mm)
  | 0, _, _, _, _ => none
  | n + 1, x1, x2, x3, g => (if (24 : Int32) ≤ x3 then some ((0 : Int32), (wrI g 1 1 x1)) else (if x1 ≤ x3 then gdd (ixo x3 24) (m_X8_changeHours_40 (m_X8_changeHours_8 n) fuL x1 x2 x3 (0 : Int32) (wrI g 6 x3.toNatClampNeg (0 : Int32))) else gdd (ixo x3 24) (gdd (ixo x3 24) (m_X8_changeHours_40 (m_X8_changeHours_8 n) fuL x1 x2 x3 (0 : Int32) (wrI g 6 x3.toNatClampNeg ((rdI g 6 x3.toNatClampNeg) &&& x2))))))
set_option maxHeartbeats 2000000 in
theorem t_X8_changeHours_8 {r2 : Int32} {g2 : Mm} (X : gx_X p R s m args meth c D al cI cJ A RX8 cX8_changeHours 5 none d 0 0) (hd : 2 ≤ d) : ∀ (n : Nat) (x1 : Int32) (x2 : Int32) (x3 : Int32) (g : Mm), m_X8_changeHours_8 n x1 x2 x3 g = some (r2, g2) → gx_G p l e R s m args below meth c (gx_Q below args s D al cI cJ A none g2) D al cI cJ A 5 0 0 8 [(0, .ref (al (1))), (1, .int (x1)), (2, .int (x2)), (3, .int (x3))] [] g := by
  intro n
  induction n with
  | zero => intro x1 x2 x3 g h; cases h
  | succ n ih =>
    intro x1 x2 x3 g h
    rw [m_X8_changeHours_8] at h
    refine gx_iload_n X 3 rfl dX8_changeHours_8 ?_
    refine gx_bipush X (v := (24 : Int32)) dX8_changeHours_9 (by decide) ?_
    refine gx_icmp_ge X 72 dX8_changeHours_11 (by decide) (fun q1 => ?_) (fun q1 => ?_)
    · replace h := (if_pos q1).symm.trans h
      refine gx_aload_n X 0 rfl dX8_changeHours_72 ?_
      refine gx_iload_n X 1 rfl dX8_changeHours_73 ?_
      refine gx_putf X (1) x1 lf_X8_15 lp_X8_1 (by decide) (cl_1 _ _) (Nat.le_of_ble_eq_true rfl) rfl rfl rfl dX8_changeHours_74 ?_
      obtain ⟨rfl, rfl⟩ := ret_eq h
      exact gx_vret X dX8_changeHours_77
    · replace h := (if_neg q1).symm.trans h
      refine gx_aload_n X 0 rfl dX8_changeHours_14 ?_
      refine gx_getf X (1) lf_X8_34 (by decide) (cl_1 _ _) (v := .ref (al (6))) rfl dX8_changeHours_15 ?_
      refine gx_iload_n X 3 rfl dX8_changeHours_18 ?_
      refine gx_iload_n X 3 rfl dX8_changeHours_19 ?_
      refine gx_iload_n X 1 rfl dX8_changeHours_20 ?_
      refine gx_icmp_ge X 35 dX8_changeHours_21 (by decide) (fun q2 => ?_) (fun q2 => ?_)
      · replace h := (if_pos q2).symm.trans h
        refine gx_iconst X (v := (0 : Int32)) dX8_changeHours_35 (by decide) ?_
        obtain ⟨q3, h⟩ := gdd_eq h
        refine gx_iast X (6) 24 (by decide) (fun r => cl_6 r _) q3 dX8_changeHours_36 ?_
        refine gx_iconst X (v := (0 : Int32)) dX8_changeHours_37 (by decide) ?_
        refine gx_istore X [(4, .int ((0 : Int32))), (0, .ref (al (1))), (1, .int (x1)), (2, .int (x2)), (3, .int (x3))] dX8_changeHours_38 (by decide) rfl ?_
        exact gx_sub [1, 2, 3, 4, 0] rfl (t_X8_changeHours_40 X hd (fun u0 u1 u2 g h => ih u0 u1 u2 g h) fuL x1 x2 x3 (0 : Int32) (wrI g 6 x3.toNatClampNeg (0 : Int32)) h)
      · replace h := (if_neg q2).symm.trans h
        refine gx_aload_n X 0 rfl dX8_changeHours_24 ?_
        refine gx_getf X (1) lf_X8_34 (by decide) (cl_1 _ _) (v := .ref (al (6))) rfl dX8_changeHours_25 ?_
        refine gx_iload_n X 3 rfl dX8_changeHours_28 ?_
        obtain ⟨q4, h⟩ := gdd_eq h
        refine gx_iald X (6) 24 (by decide) (cl_6 _ _) q4 dX8_changeHours_29 ?_
        refine gx_iload_n X 2 rfl dX8_changeHours_30 ?_
        refine gx_iand X dX8_changeHours_31 ?_
        refine gx_goto X 36 dX8_changeHours_32 (by decide) ?_
        obtain ⟨q5, h⟩ := gdd_eq h
        refine gx_iast X (6) 24 (by decide) (fun r => cl_6 r _) q5 dX8_changeHours_36 ?_
        refine gx_iconst X (v := (0 : Int32)) dX8_changeHours_37 (by decide) ?_
        refine gx_istore X [(4, .int ((0 : Int32))), (0, .ref (al (1))), (1, .int (x1)), (2, .int (x2)), (3, .int (x3))] dX8_changeHours_38 (by decide) rfl ?_
        exact gx_sub [1, 2, 3, 4, 0] rfl (t_X8_changeHours_40 X hd (fun u0 u1 u2 g h => ih u0 u1 u2 g h) fuL x1 x2 x3 (0 : Int32) (wrI g 6 x3.toNatClampNeg ((rdI g 6 x3.toNatClampNeg) &&& x2)) h)
def m_X8_changeHours (a1 : Int32) (g : Mm) : Option (Int32 × Mm) := m_X8_changeHours_8 fuL a1 ((shlI (1 : Int32) a1) - (1 : Int32)) (0 : Int32) g
set_option maxHeartbeats 2000000 in
theorem c_X8_changeHours {r2 : Int32} {g g2 : Mm} {a1 : Int32} (h : m_X8_changeHours a1 g = some (r2, g2)) : gx_M 2 yX8_changeHours cX8_changeHours 5 none (fun al => [.ref (al (1)), .int (a1)]) g none g2 := by
  have hd : 2 ≤ 2 := Nat.le_refl _
  refine gx_M.of (by decide +kernel) (fun _ => Nat.le_of_ble_eq_true rfl) ?_
  intro p l e R s m args below meth c D al cI cJ A X
  refine gx_eq (pc' := 0) (ls' := [(0, .ref (al (1))), (1, .int (a1))]) (st' := []) (g' := g) ⟨rfl, rfl, rfl, rfl⟩ ?_
  unfold m_X8_changeHours at h
  refine gx_iconst X (v := (1 : Int32)) dX8_changeHours_0 (by decide) ?_
  refine gx_iload_n X 1 rfl dX8_changeHours_1 ?_
  refine gx_ishl X dX8_changeHours_2 ?_
  refine gx_iconst X (v := (1 : Int32)) dX8_changeHours_3 (by decide) ?_
  refine gx_isub X dX8_changeHours_4 ?_
  refine gx_istore_n X [(2, .int (((shlI (1 : Int32) a1) - (1 : Int32)))), (0, .ref (al (1))), (1, .int (a1))] dX8_changeHours_5 (by decide) rfl ?_
  refine gx_iconst X (v := (0 : Int32)) dX8_changeHours_6 (by decide) ?_
  refine gx_istore_n X [(3, .int ((0 : Int32))), (2, .int (((shlI (1 : Int32) a1) - (1 : Int32)))), (0, .ref (al (1))), (1, .int (a1))] dX8_changeHours_7 (by decide) rfl ?_
  exact gx_sub [2, 3, 1, 0] rfl (t_X8_changeHours_8 X hd fuL a1 ((shlI (1 : Int32) a1) - (1 : Int32)) (0 : Int32) g h)
theorem dX8_totalOfBell_0 : decode cX8_totalOfBell 0 = .ok (.iconst 0, 1) := by decide +kernel
theorem dX8_totalOfBell_1 : decode cX8_totalOfBell 1 = .ok (.istore_n 2, 1) := by decide +kernel
theorem dX8_totalOfBell_2 : decode cX8_totalOfBell 2 = .ok (.iconst 0, 1) := by decide +kernel
theorem dX8_totalOfBell_3 : decode cX8_totalOfBell 3 = .ok (.istore_n 3, 1) := by decide +kernel
theorem dX8_totalOfBell_4 : decode cX8_totalOfBell 4 = .ok (.iload_n 3, 1) := by decide +kernel
theorem dX8_totalOfBell_5 : decode cX8_totalOfBell 5 = .ok (.aload_n 0, 1) := by decide +kernel
theorem dX8_totalOfBell_6 : decode cX8_totalOfBell 6 = .ok (.getfield 15, 3) := by decide +kernel
theorem dX8_totalOfBell_9 : decode cX8_totalOfBell 9 = .ok (.if_icmp .ge 18, 3) := by decide +kernel
theorem dX8_totalOfBell_12 : decode cX8_totalOfBell 12 = .ok (.iload_n 2, 1) := by decide +kernel
theorem dX8_totalOfBell_13 : decode cX8_totalOfBell 13 = .ok (.aload_n 0, 1) := by decide +kernel
theorem dX8_totalOfBell_14 : decode cX8_totalOfBell 14 = .ok (.iload_n 3, 1) := by decide +kernel
theorem dX8_totalOfBell_15 : decode cX8_totalOfBell 15 = .ok (.iload_n 1, 1) := by decide +kernel
theorem dX8_totalOfBell_16 : decode cX8_totalOfBell 16 = .ok (.invokevirtual 58, 3) := by decide +kernel
theorem dX8_totalOfBell_19 : decode cX8_totalOfBell 19 = .ok (.iadd, 1) := by decide +kernel
theorem dX8_totalOfBell_20 : decode cX8_totalOfBell 20 = .ok (.istore_n 2, 1) := by decide +kernel
theorem dX8_totalOfBell_21 : decode cX8_totalOfBell 21 = .ok (.iinc 3 1, 3) := by decide +kernel
theorem dX8_totalOfBell_24 : decode cX8_totalOfBell 24 = .ok (.goto (-20), 3) := by decide +kernel
theorem dX8_totalOfBell_27 : decode cX8_totalOfBell 27 = .ok (.iload_n 2, 1) := by decide +kernel
theorem dX8_totalOfBell_28 : decode cX8_totalOfBell 28 = .ok (.ireturn, 1) := by decide +kernel
def m_X8_totalOfBell_4 : Nat → Int32 → Int32 → Int32 → Mm → Option (Int32 × Mm)
  | 0, _, _, _, _ => none
  | n + 1, x1, x2, x3, g => (if (rdI g 1 1) ≤ x3 then some (x2, g) else bdd (m_X8_struck x3 x1 g) (fun ra2 ga3 => m_X8_totalOfBell_4 n x1 (x2 + ra2) (x3 + (1 : Int32)) ga3))
set_option maxHeartbeats 2000000 in
theorem t_X8_totalOfBell_4 {r2 : Int32} {g2 : Mm} (X : gx_X p R s m args meth c D al cI cJ A RX8 cX8_totalOfBell 4 (some .int) d 0 0) (hd : 2 ≤ d) : ∀ (n : Nat) (x1 : Int32) (x2 : Int32) (x3 : Int32) (g : Mm), m_X8_totalOfBell_4 n x1 x2 x3 g = some (r2, g2) → gx_G p l e R s m args below meth c (gx_Q below args s D al cI cJ A (some (.int r2)) g2) D al cI cJ A 4 0 0 4 [(0, .ref (al (1))), (1, .int (x1)), (2, .int (x2)), (3, .int (x3))] [] g := by
  intro n
  induction n with
  | zero => intro x1 x2 x3 g h; cases h
  | succ n ih =>
    intro x1 x2 x3 g h
    rw [m_X8_totalOfBell_4] at h
    refine gx_iload_n X 3 rfl dX8_totalOfBell_4 ?_
    refine gx_aload_n X 0 rfl dX8_totalOfBell_5 ?_
    refine gx_getf X (1) lf_X8_15 (by decide) (cl_1 _ _) (v := .int ((rdI g 1 1))) rfl dX8_totalOfBell_6 ?_
    refine gx_icmp_ge X 27 dX8_totalOfBell_9 (by decide) (fun q1 => ?_) (fun q1 => ?_)
    · replace h := (if_pos q1).symm.trans h
      refine gx_iload_n X 2 rfl dX8_totalOfBell_27 ?_
      obtain ⟨rfl, rfl⟩ := ret_eq h
      exact gx_iret X rfl dX8_totalOfBell_28
    · replace h := (if_neg q1).symm.trans h
      refine gx_iload_n X 2 rfl dX8_totalOfBell_12 ?_
      refine gx_aload_n X 0 rfl dX8_totalOfBell_13 ?_
      refine gx_iload_n X 3 rfl dX8_totalOfBell_14 ?_
      refine gx_iload_n X 1 rfl dX8_totalOfBell_15 ?_
      obtain ⟨ra2, ga3, ca4, h⟩ := bdd_eq h
      refine gx_callVi X (1) (c_X8_struck ca4) lc_X8_struck li_X8_struck lm_X8_58 (by decide) (cl_1 _ _) rfl rfl rfl (Nat.le_trans (by decide) hd) rfl (Nat.le_of_ble_eq_true rfl) dX8_totalOfBell_16 ?_
      refine gx_iadd X dX8_totalOfBell_19 ?_
      refine gx_istore_n X [(2, .int ((x2 + ra2))), (0, .ref (al (1))), (1, .int (x1)), (3, .int (x3))] dX8_totalOfBell_20 (by decide) rfl ?_
      refine gx_iinc X [(3, .int ((x3 + (1 : Int32)))), (2, .int ((x2 + ra2))), (0, .ref (al (1))), (1, .int (x1))] 3 dX8_totalOfBell_21 rfl rfl (by decide) rfl ?_
      refine gx_goto X 4 dX8_totalOfBell_24 (by decide) ?_
      exact gx_sub [2, 3, 1, 0] rfl (ih x1 (x2 + ra2) (x3 + (1 : Int32)) ga3 h)
def m_X8_totalOfBell (a1 : Int32) (g : Mm) : Option (Int32 × Mm) := m_X8_totalOfBell_4 fuL a1 (0 : Int32) (0 : Int32) g
set_option maxHeartbeats 2000000 in
theorem c_X8_totalOfBell {r2 : Int32} {g g2 : Mm} {a1 : Int32} (h : m_X8_totalOfBell a1 g = some (r2, g2)) : gx_M 2 yX8_totalOfBell cX8_totalOfBell 4 (some .int) (fun al => [.ref (al (1)), .int (a1)]) g (some (.int r2)) g2 := by
  have hd : 2 ≤ 2 := Nat.le_refl _
  refine gx_M.of (by decide +kernel) (fun _ => Nat.le_of_ble_eq_true rfl) ?_
  intro p l e R s m args below meth c D al cI cJ A X
  refine gx_eq (pc' := 0) (ls' := [(0, .ref (al (1))), (1, .int (a1))]) (st' := []) (g' := g) ⟨rfl, rfl, rfl, rfl⟩ ?_
  unfold m_X8_totalOfBell at h
  refine gx_iconst X (v := (0 : Int32)) dX8_totalOfBell_0 (by decide) ?_
  refine gx_istore_n X [(2, .int ((0 : Int32))), (0, .ref (al (1))), (1, .int (a1))] dX8_totalOfBell_1 (by decide) rfl ?_
  refine gx_iconst X (v := (0 : Int32)) dX8_totalOfBell_2 (by decide) ?_
  refine gx_istore_n X [(3, .int ((0 : Int32))), (2, .int ((0 : Int32))), (0, .ref (al (1))), (1, .int (a1))] dX8_totalOfBell_3 (by decide) rfl ?_
  exact gx_sub [2, 3, 1, 0] rfl (t_X8_totalOfBell_4 X hd fuL a1 (0 : Int32) (0 : Int32) g h)
theorem dX8_costOfBell_0 : decode cX8_costOfBell 0 = .ok (.iconst 2, 1) := by decide +kernel
theorem dX8_costOfBell_1 : decode cX8_costOfBell 1 = .ok (.aload_n 0, 1) := by decide +kernel
theorem dX8_costOfBell_2 : decode cX8_costOfBell 2 = .ok (.getfield 25, 3) := by decide +kernel
theorem dX8_costOfBell_5 : decode cX8_costOfBell 5 = .ok (.iload_n 1, 1) := by decide +kernel
theorem dX8_costOfBell_6 : decode cX8_costOfBell 6 = .ok (.iaload, 1) := by decide +kernel
theorem dX8_costOfBell_7 : decode cX8_costOfBell 7 = .ok (.imul, 1) := by decide +kernel
theorem dX8_costOfBell_8 : decode cX8_costOfBell 8 = .ok (.aload_n 0, 1) := by decide +kernel
theorem dX8_costOfBell_9 : decode cX8_costOfBell 9 = .ok (.iload_n 1, 1) := by decide +kernel
theorem dX8_costOfBell_10 : decode cX8_costOfBell 10 = .ok (.invokevirtual 64, 3) := by decide +kernel
theorem dX8_costOfBell_13 : decode cX8_costOfBell 13 = .ok (.imul, 1) := by decide +kernel
theorem dX8_costOfBell_14 : decode cX8_costOfBell 14 = .ok (.ireturn, 1) := by decide +kernel
def m_X8_costOfBell (a1 : Int32) (g : Mm) : Option (Int32 × Mm) := gdd (ixo a1 6) (bdd (m_X8_totalOfBell a1 g) (fun ra2 ga3 => some ((((2 : Int32) * (rdI g 3 a1.toNatClampNeg)) * ra2), ga3)))
set_option maxHeartbeats 2000000 in
theorem c_X8_costOfBell {r2 : Int32} {g g2 : Mm} {a1 : Int32} (h : m_X8_costOfBell a1 g = some (r2, g2)) : gx_M 3 yX8_costOfBell cX8_costOfBell 2 (some .int) (fun al => [.ref (al (1)), .int (a1)]) g (some (.int r2)) g2 := by
  have hd : 3 ≤ 3 := Nat.le_refl _
  refine gx_M.of (by decide +kernel) (fun _ => Nat.le_of_ble_eq_true rfl) ?_
  intro p l e R s m args below meth c D al cI cJ A X
  refine gx_eq (pc' := 0) (ls' := [(0, .ref (al (1))), (1, .int (a1))]) (st' := []) (g' := g) ⟨rfl, rfl, rfl, rfl⟩ ?_
  unfold m_X8_costOfBell at h
  refine gx_iconst X (v := (2 : Int32)) dX8_costOfBell_0 (by decide) ?_
  refine gx_aload_n X 0 rfl dX8_costOfBell_1 ?_
  refine gx_getf X (1) lf_X8_25 (by decide) (cl_1 _ _) (v := .ref (al (3))) rfl dX8_costOfBell_2 ?_
  refine gx_iload_n X 1 rfl dX8_costOfBell_5 ?_
  obtain ⟨q1, h⟩ := gdd_eq h
  refine gx_iald X (3) 6 (by decide) (cl_3 _ _) q1 dX8_costOfBell_6 ?_
  refine gx_imul X dX8_costOfBell_7 ?_
  refine gx_aload_n X 0 rfl dX8_costOfBell_8 ?_
  refine gx_iload_n X 1 rfl dX8_costOfBell_9 ?_
  obtain ⟨ra2, ga3, ca4, h⟩ := bdd_eq h
  refine gx_callVi X (1) (c_X8_totalOfBell ca4) lc_X8_totalOfBell li_X8_totalOfBell lm_X8_64 (by decide) (cl_1 _ _) rfl rfl rfl (Nat.le_trans (by decide) hd) rfl (Nat.le_of_ble_eq_true rfl) dX8_costOfBell_10 ?_
  refine gx_imul X dX8_costOfBell_13 ?_
  obtain ⟨rfl, rfl⟩ := ret_eq h
  exact gx_iret X rfl dX8_costOfBell_14
theorem dX8_costOfADay_0 : decode cX8_costOfADay 0 = .ok (.iconst 0, 1) := by decide +kernel
theorem dX8_costOfADay_1 : decode cX8_costOfADay 1 = .ok (.istore_n 1, 1) := by decide +kernel
theorem dX8_costOfADay_2 : decode cX8_costOfADay 2 = .ok (.iconst 0, 1) := by decide +kernel
theorem dX8_costOfADay_3 : decode cX8_costOfADay 3 = .ok (.istore_n 2, 1) := by decide +kernel
theorem dX8_costOfADay_4 : decode cX8_costOfADay 4 = .ok (.iload_n 2, 1) := by decide +kernel
theorem dX8_costOfADay_5 : decode cX8_costOfADay 5 = .ok (.aload_n 0, 1) := by decide +kernel
theorem dX8_costOfADay_6 : decode cX8_costOfADay 6 = .ok (.getfield 9, 3) := by decide +kernel
theorem dX8_costOfADay_9 : decode cX8_costOfADay 9 = .ok (.if_icmp .ge 17, 3) := by decide +kernel
theorem dX8_costOfADay_12 : decode cX8_costOfADay 12 = .ok (.iload_n 1, 1) := by decide +kernel
theorem dX8_costOfADay_13 : decode cX8_costOfADay 13 = .ok (.aload_n 0, 1) := by decide +kernel
theorem dX8_costOfADay_14 : decode cX8_costOfADay 14 = .ok (.iload_n 2, 1) := by decide +kernel
theorem dX8_costOfADay_15 : decode cX8_costOfADay 15 = .ok (.invokevirtual 71, 3) := by decide +kernel
theorem dX8_costOfADay_18 : decode cX8_costOfADay 18 = .ok (.iadd, 1) := by decide +kernel
theorem dX8_costOfADay_19 : decode cX8_costOfADay 19 = .ok (.istore_n 1, 1) := by decide +kernel
theorem dX8_costOfADay_20 : decode cX8_costOfADay 20 = .ok (.iinc 2 1, 3) := by decide +kernel
theorem dX8_costOfADay_23 : decode cX8_costOfADay 23 = .ok (.goto (-19), 3) := by decide +kernel
theorem dX8_costOfADay_26 : decode cX8_costOfADay 26 = .ok (.iload_n 1, 1) := by decide +kernel
theorem dX8_costOfADay_27 : decode cX8_costOfADay 27 = .ok (.ireturn, 1) := by decide +kernel
def m_X8_costOfADay_4 : Nat → Int32 → Int32 → Mm → Option (Int32 × Mm)
  | 0, _, _, _ => none
  | n + 1, x1, x2, g => (if (rdI g 1 0) ≤ x2 then some (x1, g) else bdd (m_X8_costOfBell x2 g) (fun ra2 ga3 => m_X8_costOfADay_4 n (x1 + ra2) (x2 + (1 : Int32)) ga3))
set_option maxHeartbeats 2000000 in
theorem t_X8_costOfADay_4 {r2 : Int32} {g2 : Mm} (X : gx_X p R s m args meth c D al cI cJ A RX8 cX8_costOfADay 3 (some .int) d 0 0) (hd : 4 ≤ d) : ∀ (n : Nat) (x1 : Int32) (x2 : Int32) (g : Mm), m_X8_costOfADay_4 n x1 x2 g = some (r2, g2) → gx_G p l e R s m args below meth c (gx_Q below args s D al cI cJ A (some (.int r2)) g2) D al cI cJ A 3 0 0 4 [(0, .ref (al (1))), (1, .int (x1)), (2, .int (x2))] [] g := by
  intro n
  induction n with
  | zero => intro x1 x2 g h; cases h
  | succ n ih =>
    intro x1 x2 g h
    rw [m_X8_costOfADay_4] at h
    refine gx_iload_n X 2 rfl dX8_costOfADay_4 ?_
    refine gx_aload_n X 0 rfl dX8_costOfADay_5 ?_
    refine gx_getf X (1) lf_X8_9 (by decide) (cl_1 _ _) (v := .int ((rdI g 1 0))) rfl dX8_costOfADay_6 ?_
    refine gx_icmp_ge X 26 dX8_costOfADay_9 (by decide) (fun q1 => ?_) (fun q1 => ?_)
    · replace h := (if_pos q1).symm.trans h
      refine gx_iload_n X 1 rfl dX8_costOfADay_26 ?_
      obtain ⟨rfl, rfl⟩ := ret_eq h
      exact gx_iret X rfl dX8_costOfADay_27
    · replace h := (if_neg q1).symm.trans h
      refine gx_iload_n X 1 rfl dX8_costOfADay_12 ?_
      refine gx_aload_n X 0 rfl dX8_costOfADay_13 ?_
      refine gx_iload_n X 2 rfl dX8_costOfADay_14 ?_
      obtain ⟨ra2, ga3, ca4, h⟩ := bdd_eq h
      refine gx_callVi X (1) (c_X8_costOfBell ca4) lc_X8_costOfBell li_X8_costOfBell lm_X8_71 (by decide) (cl_1 _ _) rfl rfl rfl (Nat.le_trans (by decide) hd) rfl (Nat.le_of_ble_eq_true rfl) dX8_costOfADay_15 ?_
      refine gx_iadd X dX8_costOfADay_18 ?_
      refine gx_istore_n X [(1, .int ((x1 + ra2))), (0, .ref (al (1))), (2, .int (x2))] dX8_costOfADay_19 (by decide) rfl ?_
      refine gx_iinc X [(2, .int ((x2 + (1 : Int32)))), (1, .int ((x1 + ra2))), (0, .ref (al (1)))] 2 dX8_costOfADay_20 rfl rfl (by decide) rfl ?_
      refine gx_goto X 4 dX8_costOfADay_23 (by decide) ?_
      exact gx_sub [2, 1, 0] rfl (ih (x1 + ra2) (x2 + (1 : Int32)) ga3 h)
def m_X8_costOfADay (g : Mm) : Option (Int32 × Mm) := m_X8_costOfADay_4 fuL (0 : Int32) (0 : Int32) g
set_option maxHeartbeats 2000000 in
theorem c_X8_costOfADay {r2 : Int32} {g g2 : Mm} (h : m_X8_costOfADay g = some (r2, g2)) : gx_M 4 yX8_costOfADay cX8_costOfADay 3 (some .int) (fun al => [.ref (al (1))]) g (some (.int r2)) g2 := by
  have hd : 4 ≤ 4 := Nat.le_refl _
  refine gx_M.of (by decide +kernel) (fun _ => Nat.le_of_ble_eq_true rfl) ?_
  intro p l e R s m args below meth c D al cI cJ A X
  refine gx_eq (pc' := 0) (ls' := [(0, .ref (al (1)))]) (st' := []) (g' := g) ⟨rfl, rfl, rfl, rfl⟩ ?_
  unfold m_X8_costOfADay at h
  refine gx_iconst X (v := (0 : Int32)) dX8_costOfADay_0 (by decide) ?_
  refine gx_istore_n X [(1, .int ((0 : Int32))), (0, .ref (al (1)))] dX8_costOfADay_1 (by decide) rfl ?_
  refine gx_iconst X (v := (0 : Int32)) dX8_costOfADay_2 (by decide) ?_
  refine gx_istore_n X [(2, .int ((0 : Int32))), (1, .int ((0 : Int32))), (0, .ref (al (1)))] dX8_costOfADay_3 (by decide) rfl ?_
  exact gx_sub [2, 1, 0] rfl (t_X8_costOfADay_4 X hd fuL (0 : Int32) (0 : Int32) g h)
theorem dX8_dearestBell_0 : decode cX8_dearestBell 0 = .ok (.iconst 0, 1) := by decide +kernel
theorem dX8_dearestBell_1 : decode cX8_dearestBell 1 = .ok (.istore_n 1, 1) := by decide +kernel
theorem dX8_dearestBell_2 : decode cX8_dearestBell 2 = .ok (.iconst 1, 1) := by decide +kernel
theorem dX8_dearestBell_3 : decode cX8_dearestBell 3 = .ok (.istore_n 2, 1) := by decide +kernel
theorem dX8_dearestBell_4 : decode cX8_dearestBell 4 = .ok (.iload_n 2, 1) := by decide +kernel
theorem dX8_dearestBell_5 : decode cX8_dearestBell 5 = .ok (.aload_n 0, 1) := by decide +kernel
theorem dX8_dearestBell_6 : decode cX8_dearestBell 6 = .ok (.getfield 9, 3) := by decide +kernel
theorem dX8_dearestBell_9 : decode cX8_dearestBell 9 = .ok (.if_icmp .ge 24, 3) := by decide +kernel
theorem dX8_dearestBell_12 : decode cX8_dearestBell 12 = .ok (.aload_n 0, 1) := by decide +kernel
theorem dX8_dearestBell_13 : decode cX8_dearestBell 13 = .ok (.iload_n 2, 1) := by decide +kernel
theorem dX8_dearestBell_14 : decode cX8_dearestBell 14 = .ok (.invokevirtual 71, 3) := by decide +kernel
theorem dX8_dearestBell_17 : decode cX8_dearestBell 17 = .ok (.aload_n 0, 1) := by decide +kernel
theorem dX8_dearestBell_18 : decode cX8_dearestBell 18 = .ok (.iload_n 1, 1) := by decide +kernel
theorem dX8_dearestBell_19 : decode cX8_dearestBell 19 = .ok (.invokevirtual 71, 3) := by decide +kernel
theorem dX8_dearestBell_22 : decode cX8_dearestBell 22 = .ok (.if_icmp .le 5, 3) := by decide +kernel
theorem dX8_dearestBell_25 : decode cX8_dearestBell 25 = .ok (.iload_n 2, 1) := by decide +kernel
theorem dX8_dearestBell_26 : decode cX8_dearestBell 26 = .ok (.istore_n 1, 1) := by decide +kernel
theorem dX8_dearestBell_27 : decode cX8_dearestBell 27 = .ok (.iinc 2 1, 3) := by decide +kernel
theorem dX8_dearestBell_30 : decode cX8_dearestBell 30 = .ok (.goto (-26), 3) := by decide +kernel
theorem dX8_dearestBell_33 : decode cX8_dearestBell 33 = .ok (.iload_n 1, 1) := by decide +kernel
theorem dX8_dearestBell_34 : decode cX8_dearestBell 34 = .ok (.ireturn, 1) := by decide +kernel
def m_X8_dearestBell_4 : Nat → Int32 → Int32 → Mm → Option (Int32 × Mm)
  | 0, _, _, _ => none
  | n + 1, x1, x2, g => (if (rdI g 1 0) ≤ x2 then some (x1, g) else bdd (m_X8_costOfBell x2 g) (fun ra2 ga3 => bdd (m_X8_costOfBell x1 ga3) (fun ra5 ga6 => (if ra2 ≤ ra5 then m_X8_dearestBell_4 n x1 (x2 + (1 : Int32)) ga6 else m_X8_dearestBell_4 n x2 (x2 + (1 : Int32)) ga6))))
set_option maxHeartbeats 2000000 in
theorem t_X8_dearestBell_4 {r2 : Int32} {g2 : Mm} (X : gx_X p R s m args meth c D al cI cJ A RX8 cX8_dearestBell 3 (some .int) d 0 0) (hd : 4 ≤ d) : ∀ (n : Nat) (x1 : Int32) (x2 : Int32) (g : Mm), m_X8_dearestBell_4 n x1 x2 g = some (r2, g2) → gx_G p l e R s m args below meth c (gx_Q below args s D al cI cJ A (some (.int r2)) g2) D al cI cJ A 3 0 0 4 [(0, .ref (al (1))), (1, .int (x1)), (2, .int (x2))] [] g := by
  intro n
  induction n with
  | zero => intro x1 x2 g h; cases h
  | succ n ih =>
    intro x1 x2 g h
    rw [m_X8_dearestBell_4] at h
    refine gx_iload_n X 2 rfl dX8_dearestBell_4 ?_
    refine gx_aload_n X 0 rfl dX8_dearestBell_5 ?_
    refine gx_getf X (1) lf_X8_9 (by decide) (cl_1 _ _) (v := .int ((rdI g 1 0))) rfl dX8_dearestBell_6 ?_
    refine gx_icmp_ge X 33 dX8_dearestBell_9 (by decide) (fun q1 => ?_) (fun q1 => ?_)
    · replace h := (if_pos q1).symm.trans h
      refine gx_iload_n X 1 rfl dX8_dearestBell_33 ?_
      obtain ⟨rfl, rfl⟩ := ret_eq h
      exact gx_iret X rfl dX8_dearestBell_34
    · replace h := (if_neg q1).symm.trans h
      refine gx_aload_n X 0 rfl dX8_dearestBell_12 ?_
      refine gx_iload_n X 2 rfl dX8_dearestBell_13 ?_
      obtain ⟨ra2, ga3, ca4, h⟩ := bdd_eq h
      refine gx_callVi X (1) (c_X8_costOfBell ca4) lc_X8_costOfBell li_X8_costOfBell lm_X8_71 (by decide) (cl_1 _ _) rfl rfl rfl (Nat.le_trans (by decide) hd) rfl (Nat.le_of_ble_eq_true rfl) dX8_dearestBell_14 ?_
      refine gx_aload_n X 0 rfl dX8_dearestBell_17 ?_
      refine gx_iload_n X 1 rfl dX8_dearestBell_18 ?_
      obtain ⟨ra5, ga6, ca7, h⟩ := bdd_eq h
      refine gx_callVi X (1) (c_X8_costOfBell ca7) lc_X8_costOfBell li_X8_costOfBell lm_X8_71 (by decide) (cl_1 _ _) rfl rfl rfl (Nat.le_trans (by decide) hd) rfl (Nat.le_of_ble_eq_true rfl) dX8_dearestBell_19 ?_
      refine gx_icmp_le X 27 dX8_dearestBell_22 (by decide) (fun q8 => ?_) (fun q8 => ?_)
      · replace h := (if_pos q8).symm.trans h
        refine gx_iinc X [(2, .int ((x2 + (1 : Int32)))), (0, .ref (al (1))), (1, .int (x1))] 2 dX8_dearestBell_27 rfl rfl (by decide) rfl ?_
        refine gx_goto X 4 dX8_dearestBell_30 (by decide) ?_
        exact gx_sub [1, 2, 0] rfl (ih x1 (x2 + (1 : Int32)) ga6 h)
      · replace h := (if_neg q8).symm.trans h
        refine gx_iload_n X 2 rfl dX8_dearestBell_25 ?_
        refine gx_istore_n X [(1, .int (x2)), (0, .ref (al (1))), (2, .int (x2))] dX8_dearestBell_26 (by decide) rfl ?_
        refine gx_iinc X [(2, .int ((x2 + (1 : Int32)))), (1, .int (x2)), (0, .ref (al (1)))] 2 dX8_dearestBell_27 rfl rfl (by decide) rfl ?_
        refine gx_goto X 4 dX8_dearestBell_30 (by decide) ?_
        exact gx_sub [2, 1, 0] rfl (ih x2 (x2 + (1 : Int32)) ga6 h)
def m_X8_dearestBell (g : Mm) : Option (Int32 × Mm) := m_X8_dearestBell_4 fuL (0 : Int32) (1 : Int32) g
set_option maxHeartbeats 2000000 in
theorem c_X8_dearestBell {r2 : Int32} {g g2 : Mm} (h : m_X8_dearestBell g = some (r2, g2)) : gx_M 4 yX8_dearestBell cX8_dearestBell 3 (some .int) (fun al => [.ref (al (1))]) g (some (.int r2)) g2 := by
  have hd : 4 ≤ 4 := Nat.le_refl _
  refine gx_M.of (by decide +kernel) (fun _ => Nat.le_of_ble_eq_true rfl) ?_
  intro p l e R s m args below meth c D al cI cJ A X
  refine gx_eq (pc' := 0) (ls' := [(0, .ref (al (1)))]) (st' := []) (g' := g) ⟨rfl, rfl, rfl, rfl⟩ ?_
  unfold m_X8_dearestBell at h
  refine gx_iconst X (v := (0 : Int32)) dX8_dearestBell_0 (by decide) ?_
  refine gx_istore_n X [(1, .int ((0 : Int32))), (0, .ref (al (1)))] dX8_dearestBell_1 (by decide) rfl ?_
  refine gx_iconst X (v := (1 : Int32)) dX8_dearestBell_2 (by decide) ?_
  refine gx_istore_n X [(2, .int ((1 : Int32))), (1, .int ((0 : Int32))), (0, .ref (al (1)))] dX8_dearestBell_3 (by decide) rfl ?_
  exact gx_sub [2, 1, 0] rfl (t_X8_dearestBell_4 X hd fuL (0 : Int32) (1 : Int32) g h)
theorem dX8_greatestOf_0 : decode cX8_greatestOf 0 = .ok (.iconst 0, 1) := by decide +kernel
theorem dX8_greatestOf_1 : decode cX8_greatestOf 1 = .ok (.istore_n 2, 1) := by decide +kernel
theorem dX8_greatestOf_2 : decode cX8_greatestOf 2 = .ok (.iconst 0, 1) := by decide +kernel
theorem dX8_greatestOf_3 : decode cX8_greatestOf 3 = .ok (.istore_n 3, 1) := by decide +kernel
theorem dX8_greatestOf_4 : decode cX8_greatestOf 4 = .ok (.iload_n 3, 1) := by decide +kernel
theorem dX8_greatestOf_5 : decode cX8_greatestOf 5 = .ok (.aload_n 0, 1) := by decide +kernel
theorem dX8_greatestOf_6 : decode cX8_greatestOf 6 = .ok (.getfield 15, 3) := by decide +kernel
theorem dX8_greatestOf_9 : decode cX8_greatestOf 9 = .ok (.if_icmp .ge 20, 3) := by decide +kernel
theorem dX8_greatestOf_12 : decode cX8_greatestOf 12 = .ok (.iload_n 2, 1) := by decide +kernel
theorem dX8_greatestOf_13 : decode cX8_greatestOf 13 = .ok (.aload_n 0, 1) := by decide +kernel
theorem dX8_greatestOf_14 : decode cX8_greatestOf 14 = .ok (.iload_n 3, 1) := by decide +kernel
theorem dX8_greatestOf_15 : decode cX8_greatestOf 15 = .ok (.iload_n 1, 1) := by decide +kernel
theorem dX8_greatestOf_16 : decode cX8_greatestOf 16 = .ok (.invokevirtual 58, 3) := by decide +kernel
theorem dX8_greatestOf_19 : decode cX8_greatestOf 19 = .ok (.invokestatic 61, 3) := by decide +kernel
theorem dX8_greatestOf_22 : decode cX8_greatestOf 22 = .ok (.istore_n 2, 1) := by decide +kernel
theorem dX8_greatestOf_23 : decode cX8_greatestOf 23 = .ok (.iinc 3 1, 3) := by decide +kernel
theorem dX8_greatestOf_26 : decode cX8_greatestOf 26 = .ok (.goto (-22), 3) := by decide +kernel
theorem dX8_greatestOf_29 : decode cX8_greatestOf 29 = .ok (.iload_n 2, 1) := by decide +kernel
theorem dX8_greatestOf_30 : decode cX8_greatestOf 30 = .ok (.ireturn, 1) := by decide +kernel
def m_X8_greatestOf_4 : Nat → Int32 → Int32 → Int32 → Mm → Option (Int32 × Mm)
  | 0, _, _, _, _ => none
  | n + 1, x1, x2, x3, g => (if (rdI g 1 1) ≤ x3 then some (x2, g) else bdd (m_X8_struck x3 x1 g) (fun ra2 ga3 => bdd (m_J9_max_7cf53 x2 ra2 ga3) (fun ra5 ga6 => m_X8_greatestOf_4 n x1 ra5 (x3 + (1 : Int32)) ga6)))
set_option maxHeartbeats 2000000 in
theorem t_X8_greatestOf_4 {r2 : Int32} {g2 : Mm} (X : gx_X p R s m args meth c D al cI cJ A RX8 cX8_greatestOf 4 (some .int) d 0 0) (hd : 2 ≤ d) : ∀ (n : Nat) (x1 : Int32) (x2 : Int32) (x3 : Int32) (g : Mm), m_X8_greatestOf_4 n x1 x2 x3 g = some (r2, g2) → gx_G p l e R s m args below meth c (gx_Q below args s D al cI cJ A (some (.int r2)) g2) D al cI cJ A 4 0 0 4 [(0, .ref (al (1))), (1, .int (x1)), (2, .int (x2)), (3, .int (x3))] [] g := by
  intro n
  induction n with
  | zero => intro x1 x2 x3 g h; cases h
  | succ n ih =>
    intro x1 x2 x3 g h
    rw [m_X8_greatestOf_4] at h
    refine gx_iload_n X 3 rfl dX8_greatestOf_4 ?_
    refine gx_aload_n X 0 rfl dX8_greatestOf_5 ?_
    refine gx_getf X (1) lf_X8_15 (by decide) (cl_1 _ _) (v := .int ((rdI g 1 1))) rfl dX8_greatestOf_6 ?_
    refine gx_icmp_ge X 29 dX8_greatestOf_9 (by decide) (fun q1 => ?_) (fun q1 => ?_)
    · replace h := (if_pos q1).symm.trans h
      refine gx_iload_n X 2 rfl dX8_greatestOf_29 ?_
      obtain ⟨rfl, rfl⟩ := ret_eq h
      exact gx_iret X rfl dX8_greatestOf_30
    · replace h := (if_neg q1).symm.trans h
      refine gx_iload_n X 2 rfl dX8_greatestOf_12 ?_
      refine gx_aload_n X 0 rfl dX8_greatestOf_13 ?_
      refine gx_iload_n X 3 rfl dX8_greatestOf_14 ?_
      refine gx_iload_n X 1 rfl dX8_greatestOf_15 ?_
      obtain ⟨ra2, ga3, ca4, h⟩ := bdd_eq h
      refine gx_callVi X (1) (c_X8_struck ca4) lc_X8_struck li_X8_struck lm_X8_58 (by decide) (cl_1 _ _) rfl rfl rfl (Nat.le_trans (by decide) hd) rfl (Nat.le_of_ble_eq_true rfl) dX8_greatestOf_16 ?_
      obtain ⟨ra5, ga6, ca7, h⟩ := bdd_eq h
      refine gx_callSi X (c_J9_max_7cf53 ca7) lc_J9_max_7cf53 li_J9_max_7cf53 lm_X8_61 rfl rfl (Nat.le_trans (by decide) hd) rfl (Nat.le_of_ble_eq_true rfl) dX8_greatestOf_19 ?_
      refine gx_istore_n X [(2, .int (ra5)), (0, .ref (al (1))), (1, .int (x1)), (3, .int (x3))] dX8_greatestOf_22 (by decide) rfl ?_
      refine gx_iinc X [(3, .int ((x3 + (1 : Int32)))), (2, .int (ra5)), (0, .ref (al (1))), (1, .int (x1))] 3 dX8_greatestOf_23 rfl rfl (by decide) rfl ?_
      refine gx_goto X 4 dX8_greatestOf_26 (by decide) ?_
      exact gx_sub [2, 3, 1, 0] rfl (ih x1 ra5 (x3 + (1 : Int32)) ga6 h)
def m_X8_greatestOf (a1 : Int32) (g : Mm) : Option (Int32 × Mm) := m_X8_greatestOf_4 fuL a1 (0 : Int32) (0 : Int32) g
set_option maxHeartbeats 2000000 in
theorem c_X8_greatestOf {r2 : Int32} {g g2 : Mm} {a1 : Int32} (h : m_X8_greatestOf a1 g = some (r2, g2)) : gx_M 2 yX8_greatestOf cX8_greatestOf 4 (some .int) (fun al => [.ref (al (1)), .int (a1)]) g (some (.int r2)) g2 := by
  have hd : 2 ≤ 2 := Nat.le_refl _
  refine gx_M.of (by decide +kernel) (fun _ => Nat.le_of_ble_eq_true rfl) ?_
  intro p l e R s m args below meth c D al cI cJ A X
  refine gx_eq (pc' := 0) (ls' := [(0, .ref (al (1))), (1, .int (a1))]) (st' := []) (g' := g) ⟨rfl, rfl, rfl, rfl⟩ ?_
  unfold m_X8_greatestOf at h
  refine gx_iconst X (v := (0 : Int32)) dX8_greatestOf_0 (by decide) ?_
  refine gx_istore_n X [(2, .int ((0 : Int32))), (0, .ref (al (1))), (1, .int (a1))] dX8_greatestOf_1 (by decide) rfl ?_
  refine gx_iconst X (v := (0 : Int32)) dX8_greatestOf_2 (by decide) ?_
  refine gx_istore_n X [(3, .int ((0 : Int32))), (2, .int ((0 : Int32))), (0, .ref (al (1))), (1, .int (a1))] dX8_greatestOf_3 (by decide) rfl ?_
  exact gx_sub [2, 3, 1, 0] rfl (t_X8_greatestOf_4 X hd fuL a1 (0 : Int32) (0 : Int32) g h)
theorem dX8_hasBell_0 : decode cX8_hasBell 0 = .ok (.iload_n 1, 1) := by decide +kernel
theorem dX8_hasBell_1 : decode cX8_hasBell 1 = .ok (.ifCond .lt 15, 3) := by decide +kernel
theorem dX8_hasBell_4 : decode cX8_hasBell 4 = .ok (.iload_n 1, 1) := by decide +kernel
theorem dX8_hasBell_5 : decode cX8_hasBell 5 = .ok (.aload_n 0, 1) := by decide +kernel
theorem dX8_hasBell_6 : decode cX8_hasBell 6 = .ok (.getfield 9, 3) := by decide +kernel
theorem dX8_hasBell_9 : decode cX8_hasBell 9 = .ok (.if_icmp .ge 7, 3) := by decide +kernel
theorem dX8_hasBell_12 : decode cX8_hasBell 12 = .ok (.iconst 1, 1) := by decide +kernel
theorem dX8_hasBell_13 : decode cX8_hasBell 13 = .ok (.goto 4, 3) := by decide +kernel
theorem dX8_hasBell_16 : decode cX8_hasBell 16 = .ok (.iconst 0, 1) := by decide +kernel
theorem dX8_hasBell_17 : decode cX8_hasBell 17 = .ok (.ireturn, 1) := by decide +kernel
def m_X8_hasBell (a1 : Int32) (g : Mm) : Option (Int32 × Mm) := (if a1 < (0 : Int32) then some ((0 : Int32), g) else (if (rdI g 1 0) ≤ a1 then some ((0 : Int32), g) else some ((1 : Int32), g)))
set_option maxHeartbeats 2000000 in
theorem c_X8_hasBell {r2 : Int32} {g g2 : Mm} {a1 : Int32} (h : m_X8_hasBell a1 g = some (r2, g2)) : gx_M 1 yX8_hasBell cX8_hasBell 2 (some .boolean) (fun al => [.ref (al (1)), .int (a1)]) g (some (.int r2)) g2 := by
  have hd : 1 ≤ 1 := Nat.le_refl _
  refine gx_M.of (by decide +kernel) (fun _ => Nat.le_of_ble_eq_true rfl) ?_
  intro p l e R s m args below meth c D al cI cJ A X
  refine gx_eq (pc' := 0) (ls' := [(0, .ref (al (1))), (1, .int (a1))]) (st' := []) (g' := g) ⟨rfl, rfl, rfl, rfl⟩ ?_
  unfold m_X8_hasBell at h
  refine gx_iload_n X 1 rfl dX8_hasBell_0 ?_
  refine gx_if_lt X 16 dX8_hasBell_1 (by decide) (fun q1 => ?_) (fun q1 => ?_)
  · replace h := (if_pos q1).symm.trans h
    refine gx_iconst X (v := (0 : Int32)) dX8_hasBell_16 (by decide) ?_
    obtain ⟨rfl, rfl⟩ := ret_eq h
    exact gx_iret X rfl dX8_hasBell_17
  · replace h := (if_neg q1).symm.trans h
    refine gx_iload_n X 1 rfl dX8_hasBell_4 ?_
    refine gx_aload_n X 0 rfl dX8_hasBell_5 ?_
    refine gx_getf X (1) lf_X8_9 (by decide) (cl_1 _ _) (v := .int ((rdI g 1 0))) rfl dX8_hasBell_6 ?_
    refine gx_icmp_ge X 16 dX8_hasBell_9 (by decide) (fun q2 => ?_) (fun q2 => ?_)
    · replace h := (if_pos q2).symm.trans h
      refine gx_iconst X (v := (0 : Int32)) dX8_hasBell_16 (by decide) ?_
      obtain ⟨rfl, rfl⟩ := ret_eq h
      exact gx_iret X rfl dX8_hasBell_17
    · replace h := (if_neg q2).symm.trans h
      refine gx_iconst X (v := (1 : Int32)) dX8_hasBell_12 (by decide) ?_
      refine gx_goto X 17 dX8_hasBell_13 (by decide) ?_
      obtain ⟨rfl, rfl⟩ := ret_eq h
      exact gx_iret X rfl dX8_hasBell_17
theorem dX8_hasHour_0 : decode cX8_hasHour 0 = .ok (.iload_n 1, 1) := by decide +kernel
theorem dX8_hasHour_1 : decode cX8_hasHour 1 = .ok (.ifCond .lt 15, 3) := by decide +kernel
theorem dX8_hasHour_4 : decode cX8_hasHour 4 = .ok (.iload_n 1, 1) := by decide +kernel
theorem dX8_hasHour_5 : decode cX8_hasHour 5 = .ok (.aload_n 0, 1) := by decide +kernel
theorem dX8_hasHour_6 : decode cX8_hasHour 6 = .ok (.getfield 15, 3) := by decide +kernel
theorem dX8_hasHour_9 : decode cX8_hasHour 9 = .ok (.if_icmp .ge 7, 3) := by decide +kernel
theorem dX8_hasHour_12 : decode cX8_hasHour 12 = .ok (.iconst 1, 1) := by decide +kernel
theorem dX8_hasHour_13 : decode cX8_hasHour 13 = .ok (.goto 4, 3) := by decide +kernel
theorem dX8_hasHour_16 : decode cX8_hasHour 16 = .ok (.iconst 0, 1) := by decide +kernel
theorem dX8_hasHour_17 : decode cX8_hasHour 17 = .ok (.ireturn, 1) := by decide +kernel
def m_X8_hasHour (a1 : Int32) (g : Mm) : Option (Int32 × Mm) := (if a1 < (0 : Int32) then some ((0 : Int32), g) else (if (rdI g 1 1) ≤ a1 then some ((0 : Int32), g) else some ((1 : Int32), g)))
set_option maxHeartbeats 2000000 in
theorem c_X8_hasHour {r2 : Int32} {g g2 : Mm} {a1 : Int32} (h : m_X8_hasHour a1 g = some (r2, g2)) : gx_M 1 yX8_hasHour cX8_hasHour 2 (some .boolean) (fun al => [.ref (al (1)), .int (a1)]) g (some (.int r2)) g2 := by
  have hd : 1 ≤ 1 := Nat.le_refl _
  refine gx_M.of (by decide +kernel) (fun _ => Nat.le_of_ble_eq_true rfl) ?_
  intro p l e R s m args below meth c D al cI cJ A X
  refine gx_eq (pc' := 0) (ls' := [(0, .ref (al (1))), (1, .int (a1))]) (st' := []) (g' := g) ⟨rfl, rfl, rfl, rfl⟩ ?_
  unfold m_X8_hasHour at h
  refine gx_iload_n X 1 rfl dX8_hasHour_0 ?_
  refine gx_if_lt X 16 dX8_hasHour_1 (by decide) (fun q1 => ?_) (fun q1 => ?_)
  · replace h := (if_pos q1).symm.trans h
    refine gx_iconst X (v := (0 : Int32)) dX8_hasHour_16 (by decide) ?_
    obtain ⟨rfl, rfl⟩ := ret_eq h
    exact gx_iret X rfl dX8_hasHour_17
  · replace h := (if_neg q1).symm.trans h
    refine gx_iload_n X 1 rfl dX8_hasHour_4 ?_
    refine gx_aload_n X 0 rfl dX8_hasHour_5 ?_
    refine gx_getf X (1) lf_X8_15 (by decide) (cl_1 _ _) (v := .int ((rdI g 1 1))) rfl dX8_hasHour_6 ?_
    refine gx_icmp_ge X 16 dX8_hasHour_9 (by decide) (fun q2 => ?_) (fun q2 => ?_)
    · replace h := (if_pos q2).symm.trans h
      refine gx_iconst X (v := (0 : Int32)) dX8_hasHour_16 (by decide) ?_
      obtain ⟨rfl, rfl⟩ := ret_eq h
      exact gx_iret X rfl dX8_hasHour_17
    · replace h := (if_neg q2).symm.trans h
      refine gx_iconst X (v := (1 : Int32)) dX8_hasHour_12 (by decide) ?_
      refine gx_goto X 17 dX8_hasHour_13 (by decide) ?_
      obtain ⟨rfl, rfl⟩ := ret_eq h
      exact gx_iret X rfl dX8_hasHour_17
theorem dX8_hasCell_0 : decode cX8_hasCell 0 = .ok (.iload_n 1, 1) := by decide +kernel
theorem dX8_hasCell_1 : decode cX8_hasCell 1 = .ok (.ifCond .lt 29, 3) := by decide +kernel
theorem dX8_hasCell_4 : decode cX8_hasCell 4 = .ok (.aload_n 0, 1) := by decide +kernel
theorem dX8_hasCell_5 : decode cX8_hasCell 5 = .ok (.iload_n 1, 1) := by decide +kernel
theorem dX8_hasCell_6 : decode cX8_hasCell 6 = .ok (.bipush 10, 2) := by decide +kernel
theorem dX8_hasCell_8 : decode cX8_hasCell 8 = .ok (.idiv, 1) := by decide +kernel
theorem dX8_hasCell_9 : decode cX8_hasCell 9 = .ok (.invokevirtual 37, 3) := by decide +kernel
theorem dX8_hasCell_12 : decode cX8_hasCell 12 = .ok (.ifCond .eq 18, 3) := by decide +kernel
theorem dX8_hasCell_15 : decode cX8_hasCell 15 = .ok (.aload_n 0, 1) := by decide +kernel
theorem dX8_hasCell_16 : decode cX8_hasCell 16 = .ok (.iload_n 1, 1) := by decide +kernel
theorem dX8_hasCell_17 : decode cX8_hasCell 17 = .ok (.bipush 10, 2) := by decide +kernel
theorem dX8_hasCell_19 : decode cX8_hasCell 19 = .ok (.irem, 1) := by decide +kernel
theorem dX8_hasCell_20 : decode cX8_hasCell 20 = .ok (.invokevirtual 41, 3) := by decide +kernel
theorem dX8_hasCell_23 : decode cX8_hasCell 23 = .ok (.ifCond .eq 7, 3) := by decide +kernel
theorem dX8_hasCell_26 : decode cX8_hasCell 26 = .ok (.iconst 1, 1) := by decide +kernel
theorem dX8_hasCell_27 : decode cX8_hasCell 27 = .ok (.goto 4, 3) := by decide +kernel
theorem dX8_hasCell_30 : decode cX8_hasCell 30 = .ok (.iconst 0, 1) := by decide +kernel
theorem dX8_hasCell_31 : decode cX8_hasCell 31 = .ok (.ireturn, 1) := by decide +kernel
def m_X8_hasCell (a1 : Int32) (g : Mm) : Option (Int32 × Mm) := (if a1 < (0 : Int32) then some ((0 : Int32), g) else bdd (m_X8_hasHour (a1 / (10 : Int32)) g) (fun ra2 ga3 => (if ra2 = (0 : Int32) then some ((0 : Int32), ga3) else bdd (m_X8_hasBell (rmI a1 (10 : Int32)) ga3) (fun ra6 ga7 => (if ra6 = (0 : Int32) then some ((0 : Int32), ga7) else some ((1 : Int32), ga7))))))
set_option maxHeartbeats 2000000 in
theorem c_X8_hasCell {r2 : Int32} {g g2 : Mm} {a1 : Int32} (h : m_X8_hasCell a1 g = some (r2, g2)) : gx_M 2 yX8_hasCell cX8_hasCell 2 (some .boolean) (fun al => [.ref (al (1)), .int (a1)]) g (some (.int r2)) g2 := by
  have hd : 2 ≤ 2 := Nat.le_refl _
  refine gx_M.of (by decide +kernel) (fun _ => Nat.le_of_ble_eq_true rfl) ?_
  intro p l e R s m args below meth c D al cI cJ A X
  refine gx_eq (pc' := 0) (ls' := [(0, .ref (al (1))), (1, .int (a1))]) (st' := []) (g' := g) ⟨rfl, rfl, rfl, rfl⟩ ?_
  unfold m_X8_hasCell at h
  refine gx_iload_n X 1 rfl dX8_hasCell_0 ?_
  refine gx_if_lt X 30 dX8_hasCell_1 (by decide) (fun q1 => ?_) (fun q1 => ?_)
  · replace h := (if_pos q1).symm.trans h
    refine gx_iconst X (v := (0 : Int32)) dX8_hasCell_30 (by decide) ?_
    obtain ⟨rfl, rfl⟩ := ret_eq h
    exact gx_iret X rfl dX8_hasCell_31
  · replace h := (if_neg q1).symm.trans h
    refine gx_aload_n X 0 rfl dX8_hasCell_4 ?_
    refine gx_iload_n X 1 rfl dX8_hasCell_5 ?_
    refine gx_bipush X (v := (10 : Int32)) dX8_hasCell_6 (by decide) ?_
    refine gx_idiv X dX8_hasCell_8 (by decide) ?_
    obtain ⟨ra2, ga3, ca4, h⟩ := bdd_eq h
    refine gx_callVi X (1) (c_X8_hasHour ca4) lc_X8_hasHour li_X8_hasHour lm_X8_37 (by decide) (cl_1 _ _) rfl rfl rfl (Nat.le_trans (by decide) hd) rfl (Nat.le_of_ble_eq_true rfl) dX8_hasCell_9 ?_
    refine gx_if_eq X 30 dX8_hasCell_12 (by decide) (fun q5 => ?_) (fun q5 => ?_)
    · replace h := (if_pos q5).symm.trans h
      refine gx_iconst X (v := (0 : Int32)) dX8_hasCell_30 (by decide) ?_
      obtain ⟨rfl, rfl⟩ := ret_eq h
      exact gx_iret X rfl dX8_hasCell_31
    · replace h := (if_neg q5).symm.trans h
      refine gx_aload_n X 0 rfl dX8_hasCell_15 ?_
      refine gx_iload_n X 1 rfl dX8_hasCell_16 ?_
      refine gx_bipush X (v := (10 : Int32)) dX8_hasCell_17 (by decide) ?_
      refine gx_irem X dX8_hasCell_19 (by decide) ?_
      obtain ⟨ra6, ga7, ca8, h⟩ := bdd_eq h
      refine gx_callVi X (1) (c_X8_hasBell ca8) lc_X8_hasBell li_X8_hasBell lm_X8_41 (by decide) (cl_1 _ _) rfl rfl rfl (Nat.le_trans (by decide) hd) rfl (Nat.le_of_ble_eq_true rfl) dX8_hasCell_20 ?_
      refine gx_if_eq X 30 dX8_hasCell_23 (by decide) (fun q9 => ?_) (fun q9 => ?_)
      · replace h := (if_pos q9).symm.trans h
        refine gx_iconst X (v := (0 : Int32)) dX8_hasCell_30 (by decide) ?_
        obtain ⟨rfl, rfl⟩ := ret_eq h
        exact gx_iret X rfl dX8_hasCell_31
      · replace h := (if_neg q9).symm.trans h
        refine gx_iconst X (v := (1 : Int32)) dX8_hasCell_26 (by decide) ?_
        refine gx_goto X 31 dX8_hasCell_27 (by decide) ?_
        obtain ⟨rfl, rfl⟩ := ret_eq h
        exact gx_iret X rfl dX8_hasCell_31
theorem dX8_hasPair_0 : decode cX8_hasPair 0 = .ok (.iload_n 1, 1) := by decide +kernel
theorem dX8_hasPair_1 : decode cX8_hasPair 1 = .ok (.ifCond .lt 40, 3) := by decide +kernel
theorem dX8_hasPair_4 : decode cX8_hasPair 4 = .ok (.aload_n 0, 1) := by decide +kernel
theorem dX8_hasPair_5 : decode cX8_hasPair 5 = .ok (.iload_n 1, 1) := by decide +kernel
theorem dX8_hasPair_6 : decode cX8_hasPair 6 = .ok (.bipush 100, 2) := by decide +kernel
theorem dX8_hasPair_8 : decode cX8_hasPair 8 = .ok (.idiv, 1) := by decide +kernel
theorem dX8_hasPair_9 : decode cX8_hasPair 9 = .ok (.invokevirtual 37, 3) := by decide +kernel
theorem dX8_hasPair_12 : decode cX8_hasPair 12 = .ok (.ifCond .eq 29, 3) := by decide +kernel
theorem dX8_hasPair_15 : decode cX8_hasPair 15 = .ok (.aload_n 0, 1) := by decide +kernel
theorem dX8_hasPair_16 : decode cX8_hasPair 16 = .ok (.iload_n 1, 1) := by decide +kernel
theorem dX8_hasPair_17 : decode cX8_hasPair 17 = .ok (.bipush 100, 2) := by decide +kernel
theorem dX8_hasPair_19 : decode cX8_hasPair 19 = .ok (.irem, 1) := by decide +kernel
theorem dX8_hasPair_20 : decode cX8_hasPair 20 = .ok (.invokevirtual 37, 3) := by decide +kernel
theorem dX8_hasPair_23 : decode cX8_hasPair 23 = .ok (.ifCond .eq 18, 3) := by decide +kernel
theorem dX8_hasPair_26 : decode cX8_hasPair 26 = .ok (.iload_n 1, 1) := by decide +kernel
theorem dX8_hasPair_27 : decode cX8_hasPair 27 = .ok (.bipush 100, 2) := by decide +kernel
theorem dX8_hasPair_29 : decode cX8_hasPair 29 = .ok (.idiv, 1) := by decide +kernel
theorem dX8_hasPair_30 : decode cX8_hasPair 30 = .ok (.iload_n 1, 1) := by decide +kernel
theorem dX8_hasPair_31 : decode cX8_hasPair 31 = .ok (.bipush 100, 2) := by decide +kernel
theorem dX8_hasPair_33 : decode cX8_hasPair 33 = .ok (.irem, 1) := by decide +kernel
theorem dX8_hasPair_34 : decode cX8_hasPair 34 = .ok (.if_icmp .eq 7, 3) := by decide +kernel
theorem dX8_hasPair_37 : decode cX8_hasPair 37 = .ok (.iconst 1, 1) := by decide +kernel
theorem dX8_hasPair_38 : decode cX8_hasPair 38 = .ok (.goto 4, 3) := by decide +kernel
theorem dX8_hasPair_41 : decode cX8_hasPair 41 = .ok (.iconst 0, 1) := by decide +kernel
theorem dX8_hasPair_42 : decode cX8_hasPair 42 = .ok (.ireturn, 1) := by decide +kernel
def m_X8_hasPair (a1 : Int32) (g : Mm) : Option (Int32 × Mm) := (if a1 < (0 : Int32) then some ((0 : Int32), g) else bdd (m_X8_hasHour (a1 / (100 : Int32)) g) (fun ra2 ga3 => (if ra2 = (0 : Int32) then some ((0 : Int32), ga3) else bdd (m_X8_hasHour (rmI a1 (100 : Int32)) ga3) (fun ra6 ga7 => (if ra6 = (0 : Int32) then some ((0 : Int32), ga7) else (if (a1 / (100 : Int32)) = (rmI a1 (100 : Int32)) then some ((0 : Int32), ga7) else some ((1 : Int32), ga7)))))))
set_option maxHeartbeats 2000000 in
theorem c_X8_hasPair {r2 : Int32} {g g2 : Mm} {a1 : Int32} (h : m_X8_hasPair a1 g = some (r2, g2)) : gx_M 2 yX8_hasPair cX8_hasPair 2 (some .boolean) (fun al => [.ref (al (1)), .int (a1)]) g (some (.int r2)) g2 := by
  have hd : 2 ≤ 2 := Nat.le_refl _
  refine gx_M.of (by decide +kernel) (fun _ => Nat.le_of_ble_eq_true rfl) ?_
  intro p l e R s m args below meth c D al cI cJ A X
  refine gx_eq (pc' := 0) (ls' := [(0, .ref (al (1))), (1, .int (a1))]) (st' := []) (g' := g) ⟨rfl, rfl, rfl, rfl⟩ ?_
  unfold m_X8_hasPair at h
  refine gx_iload_n X 1 rfl dX8_hasPair_0 ?_
  refine gx_if_lt X 41 dX8_hasPair_1 (by decide) (fun q1 => ?_) (fun q1 => ?_)
  · replace h := (if_pos q1).symm.trans h
    refine gx_iconst X (v := (0 : Int32)) dX8_hasPair_41 (by decide) ?_
    obtain ⟨rfl, rfl⟩ := ret_eq h
    exact gx_iret X rfl dX8_hasPair_42
  · replace h := (if_neg q1).symm.trans h
    refine gx_aload_n X 0 rfl dX8_hasPair_4 ?_
    refine gx_iload_n X 1 rfl dX8_hasPair_5 ?_
    refine gx_bipush X (v := (100 : Int32)) dX8_hasPair_6 (by decide) ?_
    refine gx_idiv X dX8_hasPair_8 (by decide) ?_
    obtain ⟨ra2, ga3, ca4, h⟩ := bdd_eq h
    refine gx_callVi X (1) (c_X8_hasHour ca4) lc_X8_hasHour li_X8_hasHour lm_X8_37 (by decide) (cl_1 _ _) rfl rfl rfl (Nat.le_trans (by decide) hd) rfl (Nat.le_of_ble_eq_true rfl) dX8_hasPair_9 ?_
    refine gx_if_eq X 41 dX8_hasPair_12 (by decide) (fun q5 => ?_) (fun q5 => ?_)
    · replace h := (if_pos q5).symm.trans h
      refine gx_iconst X (v := (0 : Int32)) dX8_hasPair_41 (by decide) ?_
      obtain ⟨rfl, rfl⟩ := ret_eq h
      exact gx_iret X rfl dX8_hasPair_42
    · replace h := (if_neg q5).symm.trans h
      refine gx_aload_n X 0 rfl dX8_hasPair_15 ?_
      refine gx_iload_n X 1 rfl dX8_hasPair_16 ?_
      refine gx_bipush X (v := (100 : Int32)) dX8_hasPair_17 (by decide) ?_
      refine gx_irem X dX8_hasPair_19 (by decide) ?_
      obtain ⟨ra6, ga7, ca8, h⟩ := bdd_eq h
      refine gx_callVi X (1) (c_X8_hasHour ca8) lc_X8_hasHour li_X8_hasHour lm_X8_37 (by decide) (cl_1 _ _) rfl rfl rfl (Nat.le_trans (by decide) hd) rfl (Nat.le_of_ble_eq_true rfl) dX8_hasPair_20 ?_
      refine gx_if_eq X 41 dX8_hasPair_23 (by decide) (fun q9 => ?_) (fun q9 => ?_)
      · replace h := (if_pos q9).symm.trans h
        refine gx_iconst X (v := (0 : Int32)) dX8_hasPair_41 (by decide) ?_
        obtain ⟨rfl, rfl⟩ := ret_eq h
        exact gx_iret X rfl dX8_hasPair_42
      · replace h := (if_neg q9).symm.trans h
        refine gx_iload_n X 1 rfl dX8_hasPair_26 ?_
        refine gx_bipush X (v := (100 : Int32)) dX8_hasPair_27 (by decide) ?_
        refine gx_idiv X dX8_hasPair_29 (by decide) ?_
        refine gx_iload_n X 1 rfl dX8_hasPair_30 ?_
        refine gx_bipush X (v := (100 : Int32)) dX8_hasPair_31 (by decide) ?_
        refine gx_irem X dX8_hasPair_33 (by decide) ?_
        refine gx_icmp_eq X 41 dX8_hasPair_34 (by decide) (fun q10 => ?_) (fun q10 => ?_)
        · replace h := (if_pos q10).symm.trans h
          refine gx_iconst X (v := (0 : Int32)) dX8_hasPair_41 (by decide) ?_
          obtain ⟨rfl, rfl⟩ := ret_eq h
          exact gx_iret X rfl dX8_hasPair_42
        · replace h := (if_neg q10).symm.trans h
          refine gx_iconst X (v := (1 : Int32)) dX8_hasPair_37 (by decide) ?_
          refine gx_goto X 42 dX8_hasPair_38 (by decide) ?_
          obtain ⟨rfl, rfl⟩ := ret_eq h
          exact gx_iret X rfl dX8_hasPair_42
theorem dX8_hoursStriking_0 : decode cX8_hoursStriking 0 = .ok (.iconst 0, 1) := by decide +kernel
theorem dX8_hoursStriking_1 : decode cX8_hoursStriking 1 = .ok (.istore_n 3, 1) := by decide +kernel
theorem dX8_hoursStriking_2 : decode cX8_hoursStriking 2 = .ok (.iconst 0, 1) := by decide +kernel
theorem dX8_hoursStriking_3 : decode cX8_hoursStriking 3 = .ok (.istore 4, 2) := by decide +kernel
theorem dX8_hoursStriking_5 : decode cX8_hoursStriking 5 = .ok (.iload 4, 2) := by decide +kernel
theorem dX8_hoursStriking_7 : decode cX8_hoursStriking 7 = .ok (.aload_n 0, 1) := by decide +kernel
theorem dX8_hoursStriking_8 : decode cX8_hoursStriking 8 = .ok (.getfield 15, 3) := by decide +kernel
theorem dX8_hoursStriking_11 : decode cX8_hoursStriking 11 = .ok (.if_icmp .ge 27, 3) := by decide +kernel
theorem dX8_hoursStriking_14 : decode cX8_hoursStriking 14 = .ok (.aload_n 0, 1) := by decide +kernel
theorem dX8_hoursStriking_15 : decode cX8_hoursStriking 15 = .ok (.iload 4, 2) := by decide +kernel
theorem dX8_hoursStriking_17 : decode cX8_hoursStriking 17 = .ok (.iload_n 1, 1) := by decide +kernel
theorem dX8_hoursStriking_18 : decode cX8_hoursStriking 18 = .ok (.invokevirtual 58, 3) := by decide +kernel
theorem dX8_hoursStriking_21 : decode cX8_hoursStriking 21 = .ok (.iload_n 2, 1) := by decide +kernel
theorem dX8_hoursStriking_22 : decode cX8_hoursStriking 22 = .ok (.if_icmp .ne 10, 3) := by decide +kernel
theorem dX8_hoursStriking_25 : decode cX8_hoursStriking 25 = .ok (.iload_n 3, 1) := by decide +kernel
theorem dX8_hoursStriking_26 : decode cX8_hoursStriking 26 = .ok (.iconst 1, 1) := by decide +kernel
theorem dX8_hoursStriking_27 : decode cX8_hoursStriking 27 = .ok (.iload 4, 2) := by decide +kernel
theorem dX8_hoursStriking_29 : decode cX8_hoursStriking 29 = .ok (.ishl, 1) := by decide +kernel
theorem dX8_hoursStriking_30 : decode cX8_hoursStriking 30 = .ok (.ior, 1) := by decide +kernel
theorem dX8_hoursStriking_31 : decode cX8_hoursStriking 31 = .ok (.istore_n 3, 1) := by decide +kernel
theorem dX8_hoursStriking_32 : decode cX8_hoursStriking 32 = .ok (.iinc 4 1, 3) := by decide +kernel
theorem dX8_hoursStriking_35 : decode cX8_hoursStriking 35 = .ok (.goto (-30), 3) := by decide +kernel
theorem dX8_hoursStriking_38 : decode cX8_hoursStriking 38 = .ok (.iload_n 3, 1) := by decide +kernel
theorem dX8_hoursStriking_39 : decode cX8_hoursStriking 39 = .ok (.ireturn, 1) := by decide +kernel
def m_X8_hoursStriking_5 : Nat → Int32 → Int32 → Int32 → Int32 → Mm → Option (Int32 × Mm)
  | 0, _, _, _, _, _ => none
  | n + 1, x1, x2, x3, x4, g => (if (rdI g 1 1) ≤ x4 then some (x3, g) else bdd (m_X8_struck x4 x1 g) (fun ra2 ga3 => (if ra2 = x2 then m_X8_hoursStriking_5 n x1 x2 (x3 ||| (shlI (1 : Int32) x4)) (x4 + (1 : Int32)) ga3 else m_X8_hoursStriking_5 n x1 x2 x3 (x4 + (1 : Int32)) ga3)))
set_option maxHeartbeats 2000000 in
theorem t_X8_hoursStriking_5 {r2 : Int32} {g2 : Mm} (X : gx_X p R s m args meth c D al cI cJ A RX8 cX8_hoursStriking 5 (some .int) d 0 0) (hd : 2 ≤ d) : ∀ (n : Nat) (x1 : Int32) (x2 : Int32) (x3 : Int32) (x4 : Int32) (g : Mm), m_X8_hoursStriking_5 n x1 x2 x3 x4 g = some (r2, g2) → gx_G p l e R s m args below meth c (gx_Q below args s D al cI cJ A (some (.int r2)) g2) D al cI cJ A 5 0 0 5 [(0, .ref (al (1))), (1, .int (x1)), (2, .int (x2)), (3, .int (x3)), (4, .int (x4))] [] g := by
  intro n
  induction n with
  | zero => intro x1 x2 x3 x4 g h; cases h
  | succ n ih =>
    intro x1 x2 x3 x4 g h
    rw [m_X8_hoursStriking_5] at h
    refine gx_iload X 4 rfl dX8_hoursStriking_5 ?_
    refine gx_aload_n X 0 rfl dX8_hoursStriking_7 ?_
    refine gx_getf X (1) lf_X8_15 (by decide) (cl_1 _ _) (v := .int ((rdI g 1 1))) rfl dX8_hoursStriking_8 ?_
    refine gx_icmp_ge X 38 dX8_hoursStriking_11 (by decide) (fun q1 => ?_) (fun q1 => ?_)
    · replace h := (if_pos q1).symm.trans h
      refine gx_iload_n X 3 rfl dX8_hoursStriking_38 ?_
      obtain ⟨rfl, rfl⟩ := ret_eq h
      exact gx_iret X rfl dX8_hoursStriking_39
    · replace h := (if_neg q1).symm.trans h
      refine gx_aload_n X 0 rfl dX8_hoursStriking_14 ?_
      refine gx_iload X 4 rfl dX8_hoursStriking_15 ?_
      refine gx_iload_n X 1 rfl dX8_hoursStriking_17 ?_
      obtain ⟨ra2, ga3, ca4, h⟩ := bdd_eq h
      refine gx_callVi X (1) (c_X8_struck ca4) lc_X8_struck li_X8_struck lm_X8_58 (by decide) (cl_1 _ _) rfl rfl rfl (Nat.le_trans (by decide) hd) rfl (Nat.le_of_ble_eq_true rfl) dX8_hoursStriking_18 ?_
      refine gx_iload_n X 2 rfl dX8_hoursStriking_21 ?_
      refine gx_icmp_ne X 32 dX8_hoursStriking_22 (by decide) (fun q5 => ?_) (fun q5 => ?_)
      · replace h := (if_neg q5).symm.trans h
        refine gx_iinc X [(4, .int ((x4 + (1 : Int32)))), (0, .ref (al (1))), (1, .int (x1)), (2, .int (x2)), (3, .int (x3))] 4 dX8_hoursStriking_32 rfl rfl (by decide) rfl ?_
        refine gx_goto X 5 dX8_hoursStriking_35 (by decide) ?_
        exact gx_sub [1, 2, 3, 4, 0] rfl (ih x1 x2 x3 (x4 + (1 : Int32)) ga3 h)
      · replace h := (if_pos q5).symm.trans h
        refine gx_iload_n X 3 rfl dX8_hoursStriking_25 ?_
        refine gx_iconst X (v := (1 : Int32)) dX8_hoursStriking_26 (by decide) ?_
        refine gx_iload X 4 rfl dX8_hoursStriking_27 ?_
        refine gx_ishl X dX8_hoursStriking_29 ?_
        refine gx_ior X dX8_hoursStriking_30 ?_
        refine gx_istore_n X [(3, .int ((x3 ||| (shlI (1 : Int32) x4)))), (0, .ref (al (1))), (1, .int (x1)), (2, .int (x2)), (4, .int (x4))] dX8_hoursStriking_31 (by decide) rfl ?_
        refine gx_iinc X [(4, .int ((x4 + (1 : Int32)))), (3, .int ((x3 ||| (shlI (1 : Int32) x4)))), (0, .ref (al (1))), (1, .int (x1)), (2, .int (x2))] 4 dX8_hoursStriking_32 rfl rfl (by decide) rfl ?_
        refine gx_goto X 5 dX8_hoursStriking_35 (by decide) ?_
        exact gx_sub [2, 3, 4, 1, 0] rfl (ih x1 x2 (x3 ||| (shlI (1 : Int32) x4)) (x4 + (1 : Int32)) ga3 h)
def m_X8_hoursStriking (a1 : Int32) (a2 : Int32) (g : Mm) : Option (Int32 × Mm) := m_X8_hoursStriking_5 fuL a1 a2 (0 : Int32) (0 : Int32) g
set_option maxHeartbeats 2000000 in
theorem c_X8_hoursStriking {r2 : Int32} {g g2 : Mm} {a1 : Int32} {a2 : Int32} (h : m_X8_hoursStriking a1 a2 g = some (r2, g2)) : gx_M 2 yX8_hoursStriking cX8_hoursStriking 5 (some .int) (fun al => [.ref (al (1)), .int (a1), .int (a2)]) g (some (.int r2)) g2 := by
  have hd : 2 ≤ 2 := Nat.le_refl _
  refine gx_M.of (by decide +kernel) (fun _ => Nat.le_of_ble_eq_true rfl) ?_
  intro p l e R s m args below meth c D al cI cJ A X
  refine gx_eq (pc' := 0) (ls' := [(0, .ref (al (1))), (1, .int (a1)), (2, .int (a2))]) (st' := []) (g' := g) ⟨rfl, rfl, rfl, rfl⟩ ?_
  unfold m_X8_hoursStriking at h
  refine gx_iconst X (v := (0 : Int32)) dX8_hoursStriking_0 (by decide) ?_
  refine gx_istore_n X [(3, .int ((0 : Int32))), (0, .ref (al (1))), (1, .int (a1)), (2, .int (a2))] dX8_hoursStriking_1 (by decide) rfl ?_
  refine gx_iconst X (v := (0 : Int32)) dX8_hoursStriking_2 (by decide) ?_
  refine gx_istore X [(4, .int ((0 : Int32))), (3, .int ((0 : Int32))), (0, .ref (al (1))), (1, .int (a1)), (2, .int (a2))] dX8_hoursStriking_3 (by decide) rfl ?_
  exact gx_sub [2, 3, 4, 1, 0] rfl (t_X8_hoursStriking_5 X hd fuL a1 a2 (0 : Int32) (0 : Int32) g h)
theorem dX8_makeMixed_0 : decode cX8_makeMixed 0 = .ok (.iload_n 3, 1) := by decide +kernel
theorem dX8_makeMixed_1 : decode cX8_makeMixed 1 = .ok (.ifCond .eq 30, 3) := by decide +kernel
theorem dX8_makeMixed_4 : decode cX8_makeMixed 4 = .ok (.aload_n 0, 1) := by decide +kernel
theorem dX8_makeMixed_5 : decode cX8_makeMixed 5 = .ok (.getfield 34, 3) := by decide +kernel
theorem dX8_makeMixed_8 : decode cX8_makeMixed 8 = .ok (.iload_n 1, 1) := by decide +kernel
theorem dX8_makeMixed_9 : decode cX8_makeMixed 9 = .ok (.dup2, 1) := by decide +kernel
theorem dX8_makeMixed_10 : decode cX8_makeMixed 10 = .ok (.iaload, 1) := by decide +kernel
theorem dX8_makeMixed_11 : decode cX8_makeMixed 11 = .ok (.iconst 1, 1) := by decide +kernel
theorem dX8_makeMixed_12 : decode cX8_makeMixed 12 = .ok (.iload_n 2, 1) := by decide +kernel
theorem dX8_makeMixed_13 : decode cX8_makeMixed 13 = .ok (.ishl, 1) := by decide +kernel
theorem dX8_makeMixed_14 : decode cX8_makeMixed 14 = .ok (.ior, 1) := by decide +kernel
theorem dX8_makeMixed_15 : decode cX8_makeMixed 15 = .ok (.iastore, 1) := by decide +kernel
theorem dX8_makeMixed_16 : decode cX8_makeMixed 16 = .ok (.aload_n 0, 1) := by decide +kernel
theorem dX8_makeMixed_17 : decode cX8_makeMixed 17 = .ok (.getfield 34, 3) := by decide +kernel
theorem dX8_makeMixed_20 : decode cX8_makeMixed 20 = .ok (.iload_n 2, 1) := by decide +kernel
theorem dX8_makeMixed_21 : decode cX8_makeMixed 21 = .ok (.dup2, 1) := by decide +kernel
theorem dX8_makeMixed_22 : decode cX8_makeMixed 22 = .ok (.iaload, 1) := by decide +kernel
theorem dX8_makeMixed_23 : decode cX8_makeMixed 23 = .ok (.iconst 1, 1) := by decide +kernel
theorem dX8_makeMixed_24 : decode cX8_makeMixed 24 = .ok (.iload_n 1, 1) := by decide +kernel
theorem dX8_makeMixed_25 : decode cX8_makeMixed 25 = .ok (.ishl, 1) := by decide +kernel
theorem dX8_makeMixed_26 : decode cX8_makeMixed 26 = .ok (.ior, 1) := by decide +kernel
theorem dX8_makeMixed_27 : decode cX8_makeMixed 27 = .ok (.iastore, 1) := by decide +kernel
theorem dX8_makeMixed_28 : decode cX8_makeMixed 28 = .ok (.goto 31, 3) := by decide +kernel
theorem dX8_makeMixed_31 : decode cX8_makeMixed 31 = .ok (.aload_n 0, 1) := by decide +kernel
theorem dX8_makeMixed_32 : decode cX8_makeMixed 32 = .ok (.getfield 34, 3) := by decide +kernel
theorem dX8_makeMixed_35 : decode cX8_makeMixed 35 = .ok (.iload_n 1, 1) := by decide +kernel
theorem dX8_makeMixed_36 : decode cX8_makeMixed 36 = .ok (.dup2, 1) := by decide +kernel
theorem dX8_makeMixed_37 : decode cX8_makeMixed 37 = .ok (.iaload, 1) := by decide +kernel
theorem dX8_makeMixed_38 : decode cX8_makeMixed 38 = .ok (.iconst 1, 1) := by decide +kernel
theorem dX8_makeMixed_39 : decode cX8_makeMixed 39 = .ok (.iload_n 2, 1) := by decide +kernel
theorem dX8_makeMixed_40 : decode cX8_makeMixed 40 = .ok (.ishl, 1) := by decide +kernel
theorem dX8_makeMixed_41 : decode cX8_makeMixed 41 = .ok (.iconst (-1), 1) := by decide +kernel
theorem dX8_makeMixed_42 : decode cX8_makeMixed 42 = .ok (.ixor, 1) := by decide +kernel
theorem dX8_makeMixed_43 : decode cX8_makeMixed 43 = .ok (.iand, 1) := by decide +kernel
theorem dX8_makeMixed_44 : decode cX8_makeMixed 44 = .ok (.iastore, 1) := by decide +kernel
theorem dX8_makeMixed_45 : decode cX8_makeMixed 45 = .ok (.aload_n 0, 1) := by decide +kernel
theorem dX8_makeMixed_46 : decode cX8_makeMixed 46 = .ok (.getfield 34, 3) := by decide +kernel
theorem dX8_makeMixed_49 : decode cX8_makeMixed 49 = .ok (.iload_n 2, 1) := by decide +kernel
theorem dX8_makeMixed_50 : decode cX8_makeMixed 50 = .ok (.dup2, 1) := by decide +kernel
theorem dX8_makeMixed_51 : decode cX8_makeMixed 51 = .ok (.iaload, 1) := by decide +kernel
theorem dX8_makeMixed_52 : decode cX8_makeMixed 52 = .ok (.iconst 1, 1) := by decide +kernel
theorem dX8_makeMixed_53 : decode cX8_makeMixed 53 = .ok (.iload_n 1, 1) := by decide +kernel
theorem dX8_makeMixed_54 : decode cX8_makeMixed 54 = .ok (.ishl, 1) := by decide +kernel
theorem dX8_makeMixed_55 : decode cX8_makeMixed 55 = .ok (.iconst (-1), 1) := by decide +kernel
theorem dX8_makeMixed_56 : decode cX8_makeMixed 56 = .ok (.ixor, 1) := by decide +kernel
theorem dX8_makeMixed_57 : decode cX8_makeMixed 57 = .ok (.iand, 1) := by decide +kernel
theorem dX8_makeMixed_58 : decode cX8_makeMixed 58 = .ok (.iastore, 1) := by decide +kernel
theorem dX8_makeMixed_59 : decode cX8_makeMixed 59 = .ok (.return_, 1) := by decide +kernel
def m_X8_makeMixed (a1 : Int32) (a2 : Int32) (a3 : Int32) (g : Mm) : Option (Int32 × Mm) := (if a3 = (0 : Int32) then gdd (ixo a1 24) (gdd (ixo a1 24) (gdd (ixo a2 24) (gdd (ixo a2 24) (some ((0 : Int32), (wrI (wrI g 6 a1.toNatClampNeg ((rdI g 6 a1.toNatClampNeg) &&& ((shlI (1 : Int32) a2) ^^^ (-1 : Int32)))) 6 a2.toNatClampNeg ((rdI (wrI g 6 a1.toNatClampNeg ((rdI g 6 a1.toNatClampNeg) &&& ((shlI (1 : Int32) a2) ^^^ (-1 : Int32)))) 6 a2.toNatClampNeg) &&& ((shlI (1 : Int32) a1) ^^^ (-1 : Int32))))))))) else gdd (ixo a1 24) (gdd (ixo a1 24) (gdd (ixo a2 24) (gdd (ixo a2 24) (some ((0 : Int32), (wrI (wrI g 6 a1.toNatClampNeg ((rdI g 6 a1.toNatClampNeg) ||| (shlI (1 : Int32) a2))) 6 a2.toNatClampNeg ((rdI (wrI g 6 a1.toNatClampNeg ((rdI g 6 a1.toNatClampNeg) ||| (shlI (1 : Int32) a2))) 6 a2.toNatClampNeg) ||| (shlI (1 : Int32) a1)))))))))
set_option maxHeartbeats 2000000 in
theorem c_X8_makeMixed {r2 : Int32} {g g2 : Mm} {a1 : Int32} {a2 : Int32} {a3 : Int32} (h : m_X8_makeMixed a1 a2 a3 g = some (r2, g2)) : gx_M 1 yX8_makeMixed cX8_makeMixed 4 none (fun al => [.ref (al (1)), .int (a1), .int (a2), .int (a3)]) g none g2 := by
  have hd : 1 ≤ 1 := Nat.le_refl _
  refine gx_M.of (by decide +kernel) (fun _ => Nat.le_of_ble_eq_true rfl) ?_
  intro p l e R s m args below meth c D al cI cJ A X
  refine gx_eq (pc' := 0) (ls' := [(0, .ref (al (1))), (1, .int (a1)), (2, .int (a2)), (3, .int (a3))]) (st' := []) (g' := g) ⟨rfl, rfl, rfl, rfl⟩ ?_
  unfold m_X8_makeMixed at h
  refine gx_iload_n X 3 rfl dX8_makeMixed_0 ?_
  refine gx_if_eq X 31 dX8_makeMixed_1 (by decide) (fun q1 => ?_) (fun q1 => ?_)
  · replace h := (if_pos q1).symm.trans h
    refine gx_aload_n X 0 rfl dX8_makeMixed_31 ?_
    refine gx_getf X (1) lf_X8_34 (by decide) (cl_1 _ _) (v := .ref (al (6))) rfl dX8_makeMixed_32 ?_
    refine gx_iload_n X 1 rfl dX8_makeMixed_35 ?_
    refine gx_dup2 X dX8_makeMixed_36 rfl rfl ?_
    obtain ⟨q2, h⟩ := gdd_eq h
    refine gx_iald X (6) 24 (by decide) (cl_6 _ _) q2 dX8_makeMixed_37 ?_
    refine gx_iconst X (v := (1 : Int32)) dX8_makeMixed_38 (by decide) ?_
    refine gx_iload_n X 2 rfl dX8_makeMixed_39 ?_
    refine gx_ishl X dX8_makeMixed_40 ?_
    refine gx_iconst X (v := (-1 : Int32)) dX8_makeMixed_41 (by decide) ?_
    refine gx_ixor X dX8_makeMixed_42 ?_
    refine gx_iand X dX8_makeMixed_43 ?_
    obtain ⟨q3, h⟩ := gdd_eq h
    refine gx_iast X (6) 24 (by decide) (fun r => cl_6 r _) q3 dX8_makeMixed_44 ?_
    refine gx_aload_n X 0 rfl dX8_makeMixed_45 ?_
    refine gx_getf X (1) lf_X8_34 (by decide) (cl_1 _ _) (v := .ref (al (6))) rfl dX8_makeMixed_46 ?_
    refine gx_iload_n X 2 rfl dX8_makeMixed_49 ?_
    refine gx_dup2 X dX8_makeMixed_50 rfl rfl ?_
    obtain ⟨q4, h⟩ := gdd_eq h
    refine gx_iald X (6) 24 (by decide) (cl_6 _ _) q4 dX8_makeMixed_51 ?_
    refine gx_iconst X (v := (1 : Int32)) dX8_makeMixed_52 (by decide) ?_
    refine gx_iload_n X 1 rfl dX8_makeMixed_53 ?_
    refine gx_ishl X dX8_makeMixed_54 ?_
    refine gx_iconst X (v := (-1 : Int32)) dX8_makeMixed_55 (by decide) ?_
    refine gx_ixor X dX8_makeMixed_56 ?_
    refine gx_iand X dX8_makeMixed_57 ?_
    obtain ⟨q5, h⟩ := gdd_eq h
    refine gx_iast X (6) 24 (by decide) (fun r => cl_6 r _) q5 dX8_makeMixed_58 ?_
    obtain ⟨rfl, rfl⟩ := ret_eq h
    exact gx_vret X dX8_makeMixed_59
  · replace h := (if_neg q1).symm.trans h
    refine gx_aload_n X 0 rfl dX8_makeMixed_4 ?_
    refine gx_getf X (1) lf_X8_34 (by decide) (cl_1 _ _) (v := .ref (al (6))) rfl dX8_makeMixed_5 ?_
    refine gx_iload_n X 1 rfl dX8_makeMixed_8 ?_
    refine gx_dup2 X dX8_makeMixed_9 rfl rfl ?_
    obtain ⟨q6, h⟩ := gdd_eq h
    refine gx_iald X (6) 24 (by decide) (cl_6 _ _) q6 dX8_makeMixed_10 ?_
    refine gx_iconst X (v := (1 : Int32)) dX8_makeMixed_11 (by decide) ?_
    refine gx_iload_n X 2 rfl dX8_makeMixed_12 ?_
    refine gx_ishl X dX8_makeMixed_13 ?_
    refine gx_ior X dX8_makeMixed_14 ?_
    obtain ⟨q7, h⟩ := gdd_eq h
    refine gx_iast X (6) 24 (by decide) (fun r => cl_6 r _) q7 dX8_makeMixed_15 ?_
    refine gx_aload_n X 0 rfl dX8_makeMixed_16 ?_
    refine gx_getf X (1) lf_X8_34 (by decide) (cl_1 _ _) (v := .ref (al (6))) rfl dX8_makeMixed_17 ?_
    refine gx_iload_n X 2 rfl dX8_makeMixed_20 ?_
    refine gx_dup2 X dX8_makeMixed_21 rfl rfl ?_
    obtain ⟨q8, h⟩ := gdd_eq h
    refine gx_iald X (6) 24 (by decide) (cl_6 _ _) q8 dX8_makeMixed_22 ?_
    refine gx_iconst X (v := (1 : Int32)) dX8_makeMixed_23 (by decide) ?_
    refine gx_iload_n X 1 rfl dX8_makeMixed_24 ?_
    refine gx_ishl X dX8_makeMixed_25 ?_
    refine gx_ior X dX8_makeMixed_26 ?_
    obtain ⟨q9, h⟩ := gdd_eq h
    refine gx_iast X (6) 24 (by decide) (fun r => cl_6 r _) q9 dX8_makeMixed_27 ?_
    refine gx_goto X 59 dX8_makeMixed_28 (by decide) ?_
    obtain ⟨rfl, rfl⟩ := ret_eq h
    exact gx_vret X dX8_makeMixed_59
theorem dX8_mayStrike_0 : decode cX8_mayStrike 0 = .ok (.lload_n 2, 1) := by decide +kernel
theorem dX8_mayStrike_1 : decode cX8_mayStrike 1 = .ok (.lconst 0, 1) := by decide +kernel
theorem dX8_mayStrike_2 : decode cX8_mayStrike 2 = .ok (.lcmp, 1) := by decide +kernel
theorem dX8_mayStrike_3 : decode cX8_mayStrike 3 = .ok (.ifCond .lt 19, 3) := by decide +kernel
theorem dX8_mayStrike_6 : decode cX8_mayStrike 6 = .ok (.lload_n 2, 1) := by decide +kernel
theorem dX8_mayStrike_7 : decode cX8_mayStrike 7 = .ok (.aload_n 0, 1) := by decide +kernel
theorem dX8_mayStrike_8 : decode cX8_mayStrike 8 = .ok (.getfield 21, 3) := by decide +kernel
theorem dX8_mayStrike_11 : decode cX8_mayStrike 11 = .ok (.iload_n 1, 1) := by decide +kernel
theorem dX8_mayStrike_12 : decode cX8_mayStrike 12 = .ok (.iaload, 1) := by decide +kernel
theorem dX8_mayStrike_13 : decode cX8_mayStrike 13 = .ok (.i2l, 1) := by decide +kernel
theorem dX8_mayStrike_14 : decode cX8_mayStrike 14 = .ok (.lcmp, 1) := by decide +kernel
theorem dX8_mayStrike_15 : decode cX8_mayStrike 15 = .ok (.ifCond .gt 7, 3) := by decide +kernel
theorem dX8_mayStrike_18 : decode cX8_mayStrike 18 = .ok (.iconst 1, 1) := by decide +kernel
theorem dX8_mayStrike_19 : decode cX8_mayStrike 19 = .ok (.goto 4, 3) := by decide +kernel
theorem dX8_mayStrike_22 : decode cX8_mayStrike 22 = .ok (.iconst 0, 1) := by decide +kernel
theorem dX8_mayStrike_23 : decode cX8_mayStrike 23 = .ok (.ireturn, 1) := by decide +kernel
def m_X8_mayStrike (a1 : Int32) (a2 : Int64) (g : Mm) : Option (Int32 × Mm) := (if (lg_cmp a2 (0 : Int64)) < (0 : Int32) then some ((0 : Int32), g) else gdd (ixo a1 6) ((if (0 : Int32) < (lg_cmp a2 (rdI g 2 a1.toNatClampNeg).toInt64) then some ((0 : Int32), g) else some ((1 : Int32), g))))
set_option maxHeartbeats 2000000 in
theorem c_X8_mayStrike {r2 : Int32} {g g2 : Mm} {a1 : Int32} {a2 : Int64} (h : m_X8_mayStrike a1 a2 g = some (r2, g2)) : gx_M 1 yX8_mayStrike cX8_mayStrike 4 (some .boolean) (fun al => [.ref (al (1)), .int (a1), .long (a2)]) g (some (.int r2)) g2 := by
  have hd : 1 ≤ 1 := Nat.le_refl _
  refine gx_M.of (by decide +kernel) (fun _ => Nat.le_of_ble_eq_true rfl) ?_
  intro p l e R s m args below meth c D al cI cJ A X
  refine gx_eq (pc' := 0) (ls' := [(0, .ref (al (1))), (1, .int (a1)), (2, .long (a2))]) (st' := []) (g' := g) ⟨rfl, rfl, rfl, rfl⟩ ?_
  unfold m_X8_mayStrike at h
  refine gx_lload_n X 2 rfl dX8_mayStrike_0 ?_
  refine gx_lconst X (v := (0 : Int64)) dX8_mayStrike_1 (by decide) ?_
  refine gx_lcmp X dX8_mayStrike_2 ?_
  refine gx_if_lt X 22 dX8_mayStrike_3 (by decide) (fun q1 => ?_) (fun q1 => ?_)
  · replace h := (if_pos q1).symm.trans h
    refine gx_iconst X (v := (0 : Int32)) dX8_mayStrike_22 (by decide) ?_
    obtain ⟨rfl, rfl⟩ := ret_eq h
    exact gx_iret X rfl dX8_mayStrike_23
  · replace h := (if_neg q1).symm.trans h
    refine gx_lload_n X 2 rfl dX8_mayStrike_6 ?_
    refine gx_aload_n X 0 rfl dX8_mayStrike_7 ?_
    refine gx_getf X (1) lf_X8_21 (by decide) (cl_1 _ _) (v := .ref (al (2))) rfl dX8_mayStrike_8 ?_
    refine gx_iload_n X 1 rfl dX8_mayStrike_11 ?_
    obtain ⟨q2, h⟩ := gdd_eq h
    refine gx_iald X (2) 6 (by decide) (cl_2 _ _) q2 dX8_mayStrike_12 ?_
    refine gx_i2l X dX8_mayStrike_13 ?_
    refine gx_lcmp X dX8_mayStrike_14 ?_
    refine gx_if_gt X 22 dX8_mayStrike_15 (by decide) (fun q3 => ?_) (fun q3 => ?_)
    · replace h := (if_pos q3).symm.trans h
      refine gx_iconst X (v := (0 : Int32)) dX8_mayStrike_22 (by decide) ?_
      obtain ⟨rfl, rfl⟩ := ret_eq h
      exact gx_iret X rfl dX8_mayStrike_23
    · replace h := (if_neg q3).symm.trans h
      refine gx_iconst X (v := (1 : Int32)) dX8_mayStrike_18 (by decide) ?_
      refine gx_goto X 23 dX8_mayStrike_19 (by decide) ?_
      obtain ⟨rfl, rfl⟩ := ret_eq h
      exact gx_iret X rfl dX8_mayStrike_23
theorem dX8_totalOfAll_0 : decode cX8_totalOfAll 0 = .ok (.iconst 0, 1) := by decide +kernel
theorem dX8_totalOfAll_1 : decode cX8_totalOfAll 1 = .ok (.istore_n 1, 1) := by decide +kernel
theorem dX8_totalOfAll_2 : decode cX8_totalOfAll 2 = .ok (.iconst 0, 1) := by decide +kernel
theorem dX8_totalOfAll_3 : decode cX8_totalOfAll 3 = .ok (.istore_n 2, 1) := by decide +kernel
theorem dX8_totalOfAll_4 : decode cX8_totalOfAll 4 = .ok (.iload_n 2, 1) := by decide +kernel
theorem dX8_totalOfAll_5 : decode cX8_totalOfAll 5 = .ok (.aload_n 0, 1) := by decide +kernel
theorem dX8_totalOfAll_6 : decode cX8_totalOfAll 6 = .ok (.getfield 9, 3) := by decide +kernel
theorem dX8_totalOfAll_9 : decode cX8_totalOfAll 9 = .ok (.if_icmp .ge 17, 3) := by decide +kernel
theorem dX8_totalOfAll_12 : decode cX8_totalOfAll 12 = .ok (.iload_n 1, 1) := by decide +kernel
theorem dX8_totalOfAll_13 : decode cX8_totalOfAll 13 = .ok (.aload_n 0, 1) := by decide +kernel
theorem dX8_totalOfAll_14 : decode cX8_totalOfAll 14 = .ok (.iload_n 2, 1) := by decide +kernel
theorem dX8_totalOfAll_15 : decode cX8_totalOfAll 15 = .ok (.invokevirtual 64, 3) := by decide +kernel
theorem dX8_totalOfAll_18 : decode cX8_totalOfAll 18 = .ok (.iadd, 1) := by decide +kernel
theorem dX8_totalOfAll_19 : decode cX8_totalOfAll 19 = .ok (.istore_n 1, 1) := by decide +kernel
theorem dX8_totalOfAll_20 : decode cX8_totalOfAll 20 = .ok (.iinc 2 1, 3) := by decide +kernel
theorem dX8_totalOfAll_23 : decode cX8_totalOfAll 23 = .ok (.goto (-19), 3) := by decide +kernel
theorem dX8_totalOfAll_26 : decode cX8_totalOfAll 26 = .ok (.iload_n 1, 1) := by decide +kernel
theorem dX8_totalOfAll_27 : decode cX8_totalOfAll 27 = .ok (.ireturn, 1) := by decide +kernel
def m_X8_totalOfAll_4 : Nat → Int32 → Int32 → Mm → Option (Int32 × Mm)
  | 0, _, _, _ => none
  | n + 1, x1, x2, g => (if (rdI g 1 0) ≤ x2 then some (x1, g) else bdd (m_X8_totalOfBell x2 g) (fun ra2 ga3 => m_X8_totalOfAll_4 n (x1 + ra2) (x2 + (1 : Int32)) ga3))
set_option maxHeartbeats 2000000 in
theorem t_X8_totalOfAll_4 {r2 : Int32} {g2 : Mm} (X : gx_X p R s m args meth c D al cI cJ A RX8 cX8_totalOfAll 3 (some .int) d 0 0) (hd : 3 ≤ d) : ∀ (n : Nat) (x1 : Int32) (x2 : Int32) (g : Mm), m_X8_totalOfAll_4 n x1 x2 g = some (r2, g2) → gx_G p l e R s m args below meth c (gx_Q below args s D al cI cJ A (some (.int r2)) g2) D al cI cJ A 3 0 0 4 [(0, .ref (al (1))), (1, .int (x1)), (2, .int (x2))] [] g := by
  intro n
  induction n with
  | zero => intro x1 x2 g h; cases h
  | succ n ih =>
    intro x1 x2 g h
    rw [m_X8_totalOfAll_4] at h
    refine gx_iload_n X 2 rfl dX8_totalOfAll_4 ?_
    refine gx_aload_n X 0 rfl dX8_totalOfAll_5 ?_
    refine gx_getf X (1) lf_X8_9 (by decide) (cl_1 _ _) (v := .int ((rdI g 1 0))) rfl dX8_totalOfAll_6 ?_
    refine gx_icmp_ge X 26 dX8_totalOfAll_9 (by decide) (fun q1 => ?_) (fun q1 => ?_)
    · replace h := (if_pos q1).symm.trans h
      refine gx_iload_n X 1 rfl dX8_totalOfAll_26 ?_
      obtain ⟨rfl, rfl⟩ := ret_eq h
      exact gx_iret X rfl dX8_totalOfAll_27
    · replace h := (if_neg q1).symm.trans h
      refine gx_iload_n X 1 rfl dX8_totalOfAll_12 ?_
      refine gx_aload_n X 0 rfl dX8_totalOfAll_13 ?_
      refine gx_iload_n X 2 rfl dX8_totalOfAll_14 ?_
      obtain ⟨ra2, ga3, ca4, h⟩ := bdd_eq h
      refine gx_callVi X (1) (c_X8_totalOfBell ca4) lc_X8_totalOfBell li_X8_totalOfBell lm_X8_64 (by decide) (cl_1 _ _) rfl rfl rfl (Nat.le_trans (by decide) hd) rfl (Nat.le_of_ble_eq_true rfl) dX8_totalOfAll_15 ?_
      refine gx_iadd X dX8_totalOfAll_18 ?_
      refine gx_istore_n X [(1, .int ((x1 + ra2))), (0, .ref (al (1))), (2, .int (x2))] dX8_totalOfAll_19 (by decide) rfl ?_
      refine gx_iinc X [(2, .int ((x2 + (1 : Int32)))), (1, .int ((x1 + ra2))), (0, .ref (al (1)))] 2 dX8_totalOfAll_20 rfl rfl (by decide) rfl ?_
      refine gx_goto X 4 dX8_totalOfAll_23 (by decide) ?_
      exact gx_sub [2, 1, 0] rfl (ih (x1 + ra2) (x2 + (1 : Int32)) ga3 h)
def m_X8_totalOfAll (g : Mm) : Option (Int32 × Mm) := m_X8_totalOfAll_4 fuL (0 : Int32) (0 : Int32) g
set_option maxHeartbeats 2000000 in
theorem c_X8_totalOfAll {r2 : Int32} {g g2 : Mm} (h : m_X8_totalOfAll g = some (r2, g2)) : gx_M 3 yX8_totalOfAll cX8_totalOfAll 3 (some .int) (fun al => [.ref (al (1))]) g (some (.int r2)) g2 := by
  have hd : 3 ≤ 3 := Nat.le_refl _
  refine gx_M.of (by decide +kernel) (fun _ => Nat.le_of_ble_eq_true rfl) ?_
  intro p l e R s m args below meth c D al cI cJ A X
  refine gx_eq (pc' := 0) (ls' := [(0, .ref (al (1)))]) (st' := []) (g' := g) ⟨rfl, rfl, rfl, rfl⟩ ?_
  unfold m_X8_totalOfAll at h
  refine gx_iconst X (v := (0 : Int32)) dX8_totalOfAll_0 (by decide) ?_
  refine gx_istore_n X [(1, .int ((0 : Int32))), (0, .ref (al (1)))] dX8_totalOfAll_1 (by decide) rfl ?_
  refine gx_iconst X (v := (0 : Int32)) dX8_totalOfAll_2 (by decide) ?_
  refine gx_istore_n X [(2, .int ((0 : Int32))), (1, .int ((0 : Int32))), (0, .ref (al (1)))] dX8_totalOfAll_3 (by decide) rfl ?_
  exact gx_sub [2, 1, 0] rfl (t_X8_totalOfAll_4 X hd fuL (0 : Int32) (0 : Int32) g h)
theorem dX8_totalOfHour_0 : decode cX8_totalOfHour 0 = .ok (.iconst 0, 1) := by decide +kernel
theorem dX8_totalOfHour_1 : decode cX8_totalOfHour 1 = .ok (.istore_n 2, 1) := by decide +kernel
theorem dX8_totalOfHour_2 : decode cX8_totalOfHour 2 = .ok (.iconst 0, 1) := by decide +kernel
theorem dX8_totalOfHour_3 : decode cX8_totalOfHour 3 = .ok (.istore_n 3, 1) := by decide +kernel
theorem dX8_totalOfHour_4 : decode cX8_totalOfHour 4 = .ok (.iload_n 3, 1) := by decide +kernel
theorem dX8_totalOfHour_5 : decode cX8_totalOfHour 5 = .ok (.aload_n 0, 1) := by decide +kernel
theorem dX8_totalOfHour_6 : decode cX8_totalOfHour 6 = .ok (.getfield 9, 3) := by decide +kernel
theorem dX8_totalOfHour_9 : decode cX8_totalOfHour 9 = .ok (.if_icmp .ge 18, 3) := by decide +kernel
theorem dX8_totalOfHour_12 : decode cX8_totalOfHour 12 = .ok (.iload_n 2, 1) := by decide +kernel
theorem dX8_totalOfHour_13 : decode cX8_totalOfHour 13 = .ok (.aload_n 0, 1) := by decide +kernel
theorem dX8_totalOfHour_14 : decode cX8_totalOfHour 14 = .ok (.iload_n 1, 1) := by decide +kernel
theorem dX8_totalOfHour_15 : decode cX8_totalOfHour 15 = .ok (.iload_n 3, 1) := by decide +kernel
theorem dX8_totalOfHour_16 : decode cX8_totalOfHour 16 = .ok (.invokevirtual 58, 3) := by decide +kernel
theorem dX8_totalOfHour_19 : decode cX8_totalOfHour 19 = .ok (.iadd, 1) := by decide +kernel
theorem dX8_totalOfHour_20 : decode cX8_totalOfHour 20 = .ok (.istore_n 2, 1) := by decide +kernel
theorem dX8_totalOfHour_21 : decode cX8_totalOfHour 21 = .ok (.iinc 3 1, 3) := by decide +kernel
theorem dX8_totalOfHour_24 : decode cX8_totalOfHour 24 = .ok (.goto (-20), 3) := by decide +kernel
theorem dX8_totalOfHour_27 : decode cX8_totalOfHour 27 = .ok (.iload_n 2, 1) := by decide +kernel
theorem dX8_totalOfHour_28 : decode cX8_totalOfHour 28 = .ok (.ireturn, 1) := by decide +kernel
def m_X8_totalOfHour_4 : Nat → Int32 → Int32 → Int32 → Mm → Option (Int32 × Mm)
  | 0, _, _, _, _ => none
  | n + 1, x1, x2, x3, g => (if (rdI g 1 0) ≤ x3 then some (x2, g) else bdd (m_X8_struck x1 x3 g) (fun ra2 ga3 => m_X8_totalOfHour_4 n x1 (x2 + ra2) (x3 + (1 : Int32)) ga3))
set_option maxHeartbeats 2000000 in
theorem t_X8_totalOfHour_4 {r2 : Int32} {g2 : Mm} (X : gx_X p R s m args meth c D al cI cJ A RX8 cX8_totalOfHour 4 (some .int) d 0 0) (hd : 2 ≤ d) : ∀ (n : Nat) (x1 : Int32) (x2 : Int32) (x3 : Int32) (g : Mm), m_X8_totalOfHour_4 n x1 x2 x3 g = some (r2, g2) → gx_G p l e R s m args below meth c (gx_Q below args s D al cI cJ A (some (.int r2)) g2) D al cI cJ A 4 0 0 4 [(0, .ref (al (1))), (1, .int (x1)), (2, .int (x2)), (3, .int (x3))] [] g := by
  intro n
  induction n with
  | zero => intro x1 x2 x3 g h; cases h
  | succ n ih =>
    intro x1 x2 x3 g h
    rw [m_X8_totalOfHour_4] at h
    refine gx_iload_n X 3 rfl dX8_totalOfHour_4 ?_
    refine gx_aload_n X 0 rfl dX8_totalOfHour_5 ?_
    refine gx_getf X (1) lf_X8_9 (by decide) (cl_1 _ _) (v := .int ((rdI g 1 0))) rfl dX8_totalOfHour_6 ?_
    refine gx_icmp_ge X 27 dX8_totalOfHour_9 (by decide) (fun q1 => ?_) (fun q1 => ?_)
    · replace h := (if_pos q1).symm.trans h
      refine gx_iload_n X 2 rfl dX8_totalOfHour_27 ?_
      obtain ⟨rfl, rfl⟩ := ret_eq h
      exact gx_iret X rfl dX8_totalOfHour_28
    · replace h := (if_neg q1).symm.trans h
      refine gx_iload_n X 2 rfl dX8_totalOfHour_12 ?_
      refine gx_aload_n X 0 rfl dX8_totalOfHour_13 ?_
      refine gx_iload_n X 1 rfl dX8_totalOfHour_14 ?_
      refine gx_iload_n X 3 rfl dX8_totalOfHour_15 ?_
      obtain ⟨ra2, ga3, ca4, h⟩ := bdd_eq h
      refine gx_callVi X (1) (c_X8_struck ca4) lc_X8_struck li_X8_struck lm_X8_58 (by decide) (cl_1 _ _) rfl rfl rfl (Nat.le_trans (by decide) hd) rfl (Nat.le_of_ble_eq_true rfl) dX8_totalOfHour_16 ?_
      refine gx_iadd X dX8_totalOfHour_19 ?_
      refine gx_istore_n X [(2, .int ((x2 + ra2))), (0, .ref (al (1))), (1, .int (x1)), (3, .int (x3))] dX8_totalOfHour_20 (by decide) rfl ?_
      refine gx_iinc X [(3, .int ((x3 + (1 : Int32)))), (2, .int ((x2 + ra2))), (0, .ref (al (1))), (1, .int (x1))] 3 dX8_totalOfHour_21 rfl rfl (by decide) rfl ?_
      refine gx_goto X 4 dX8_totalOfHour_24 (by decide) ?_
      exact gx_sub [2, 3, 1, 0] rfl (ih x1 (x2 + ra2) (x3 + (1 : Int32)) ga3 h)
def m_X8_totalOfHour (a1 : Int32) (g : Mm) : Option (Int32 × Mm) := m_X8_totalOfHour_4 fuL a1 (0 : Int32) (0 : Int32) g
set_option maxHeartbeats 2000000 in
theorem c_X8_totalOfHour {r2 : Int32} {g g2 : Mm} {a1 : Int32} (h : m_X8_totalOfHour a1 g = some (r2, g2)) : gx_M 2 yX8_totalOfHour cX8_totalOfHour 4 (some .int) (fun al => [.ref (al (1)), .int (a1)]) g (some (.int r2)) g2 := by
  have hd : 2 ≤ 2 := Nat.le_refl _
  refine gx_M.of (by decide +kernel) (fun _ => Nat.le_of_ble_eq_true rfl) ?_
  intro p l e R s m args below meth c D al cI cJ A X
  refine gx_eq (pc' := 0) (ls' := [(0, .ref (al (1))), (1, .int (a1))]) (st' := []) (g' := g) ⟨rfl, rfl, rfl, rfl⟩ ?_
  unfold m_X8_totalOfHour at h
  refine gx_iconst X (v := (0 : Int32)) dX8_totalOfHour_0 (by decide) ?_
  refine gx_istore_n X [(2, .int ((0 : Int32))), (0, .ref (al (1))), (1, .int (a1))] dX8_totalOfHour_1 (by decide) rfl ?_
  refine gx_iconst X (v := (0 : Int32)) dX8_totalOfHour_2 (by decide) ?_
  refine gx_istore_n X [(3, .int ((0 : Int32))), (2, .int ((0 : Int32))), (0, .ref (al (1))), (1, .int (a1))] dX8_totalOfHour_3 (by decide) rfl ?_
  exact gx_sub [2, 3, 1, 0] rfl (t_X8_totalOfHour_4 X hd fuL a1 (0 : Int32) (0 : Int32) g h)
theorem dX8_worstHour_0 : decode cX8_worstHour 0 = .ok (.iconst 0, 1) := by decide +kernel
theorem dX8_worstHour_1 : decode cX8_worstHour 1 = .ok (.istore_n 1, 1) := by decide +kernel
theorem dX8_worstHour_2 : decode cX8_worstHour 2 = .ok (.iconst 1, 1) := by decide +kernel
theorem dX8_worstHour_3 : decode cX8_worstHour 3 = .ok (.istore_n 2, 1) := by decide +kernel
theorem dX8_worstHour_4 : decode cX8_worstHour 4 = .ok (.iload_n 2, 1) := by decide +kernel
theorem dX8_worstHour_5 : decode cX8_worstHour 5 = .ok (.aload_n 0, 1) := by decide +kernel
theorem dX8_worstHour_6 : decode cX8_worstHour 6 = .ok (.getfield 15, 3) := by decide +kernel
theorem dX8_worstHour_9 : decode cX8_worstHour 9 = .ok (.if_icmp .ge 24, 3) := by decide +kernel
theorem dX8_worstHour_12 : decode cX8_worstHour 12 = .ok (.aload_n 0, 1) := by decide +kernel
theorem dX8_worstHour_13 : decode cX8_worstHour 13 = .ok (.iload_n 2, 1) := by decide +kernel
theorem dX8_worstHour_14 : decode cX8_worstHour 14 = .ok (.invokevirtual 68, 3) := by decide +kernel
theorem dX8_worstHour_17 : decode cX8_worstHour 17 = .ok (.aload_n 0, 1) := by decide +kernel
theorem dX8_worstHour_18 : decode cX8_worstHour 18 = .ok (.iload_n 1, 1) := by decide +kernel
theorem dX8_worstHour_19 : decode cX8_worstHour 19 = .ok (.invokevirtual 68, 3) := by decide +kernel
theorem dX8_worstHour_22 : decode cX8_worstHour 22 = .ok (.if_icmp .le 5, 3) := by decide +kernel
theorem dX8_worstHour_25 : decode cX8_worstHour 25 = .ok (.iload_n 2, 1) := by decide +kernel
theorem dX8_worstHour_26 : decode cX8_worstHour 26 = .ok (.istore_n 1, 1) := by decide +kernel
theorem dX8_worstHour_27 : decode cX8_worstHour 27 = .ok (.iinc 2 1, 3) := by decide +kernel
theorem dX8_worstHour_30 : decode cX8_worstHour 30 = .ok (.goto (-26), 3) := by decide +kernel
theorem dX8_worstHour_33 : decode cX8_worstHour 33 = .ok (.iload_n 1, 1) := by decide +kernel
theorem dX8_worstHour_34 : decode cX8_worstHour 34 = .ok (.ireturn, 1) := by decide +kernel
def m_X8_worstHour_4 : Nat → Int32 → Int32 → Mm → Option (Int32 × Mm)
  | 0, _, _, _ => none
  | n + 1, x1, x2, g => (if (rdI g 1 1) ≤ x2 then some (x1, g) else bdd (m_X8_totalOfHour x2 g) (fun ra2 ga3 => bdd (m_X8_totalOfHour x1 ga3) (fun ra5 ga6 => (if ra2 ≤ ra5 then m_X8_worstHour_4 n x1 (x2 + (1 : Int32)) ga6 else m_X8_worstHour_4 n x2 (x2 + (1 : Int32)) ga6))))
set_option maxHeartbeats 2000000 in
theorem t_X8_worstHour_4 {r2 : Int32} {g2 : Mm} (X : gx_X p R s m args meth c D al cI cJ A RX8 cX8_worstHour 3 (some .int) d 0 0) (hd : 3 ≤ d) : ∀ (n : Nat) (x1 : Int32) (x2 : Int32) (g : Mm), m_X8_worstHour_4 n x1 x2 g = some (r2, g2) → gx_G p l e R s m args below meth c (gx_Q below args s D al cI cJ A (some (.int r2)) g2) D al cI cJ A 3 0 0 4 [(0, .ref (al (1))), (1, .int (x1)), (2, .int (x2))] [] g := by
  intro n
  induction n with
  | zero => intro x1 x2 g h; cases h
  | succ n ih =>
    intro x1 x2 g h
    rw [m_X8_worstHour_4] at h
    refine gx_iload_n X 2 rfl dX8_worstHour_4 ?_
    refine gx_aload_n X 0 rfl dX8_worstHour_5 ?_
    refine gx_getf X (1) lf_X8_15 (by decide) (cl_1 _ _) (v := .int ((rdI g 1 1))) rfl dX8_worstHour_6 ?_
    refine gx_icmp_ge X 33 dX8_worstHour_9 (by decide) (fun q1 => ?_) (fun q1 => ?_)
    · replace h := (if_pos q1).symm.trans h
      refine gx_iload_n X 1 rfl dX8_worstHour_33 ?_
      obtain ⟨rfl, rfl⟩ := ret_eq h
      exact gx_iret X rfl dX8_worstHour_34
    · replace h := (if_neg q1).symm.trans h
      refine gx_aload_n X 0 rfl dX8_worstHour_12 ?_
      refine gx_iload_n X 2 rfl dX8_worstHour_13 ?_
      obtain ⟨ra2, ga3, ca4, h⟩ := bdd_eq h
      refine gx_callVi X (1) (c_X8_totalOfHour ca4) lc_X8_totalOfHour li_X8_totalOfHour lm_X8_68 (by decide) (cl_1 _ _) rfl rfl rfl (Nat.le_trans (by decide) hd) rfl (Nat.le_of_ble_eq_true rfl) dX8_worstHour_14 ?_
      refine gx_aload_n X 0 rfl dX8_worstHour_17 ?_
      refine gx_iload_n X 1 rfl dX8_worstHour_18 ?_
      obtain ⟨ra5, ga6, ca7, h⟩ := bdd_eq h
      refine gx_callVi X (1) (c_X8_totalOfHour ca7) lc_X8_totalOfHour li_X8_totalOfHour lm_X8_68 (by decide) (cl_1 _ _) rfl rfl rfl (Nat.le_trans (by decide) hd) rfl (Nat.le_of_ble_eq_true rfl) dX8_worstHour_19 ?_
      refine gx_icmp_le X 27 dX8_worstHour_22 (by decide) (fun q8 => ?_) (fun q8 => ?_)
      · replace h := (if_pos q8).symm.trans h
        refine gx_iinc X [(2, .int ((x2 + (1 : Int32)))), (0, .ref (al (1))), (1, .int (x1))] 2 dX8_worstHour_27 rfl rfl (by decide) rfl ?_
        refine gx_goto X 4 dX8_worstHour_30 (by decide) ?_
        exact gx_sub [1, 2, 0] rfl (ih x1 (x2 + (1 : Int32)) ga6 h)
      · replace h := (if_neg q8).symm.trans h
        refine gx_iload_n X 2 rfl dX8_worstHour_25 ?_
        refine gx_istore_n X [(1, .int (x2)), (0, .ref (al (1))), (2, .int (x2))] dX8_worstHour_26 (by decide) rfl ?_
        refine gx_iinc X [(2, .int ((x2 + (1 : Int32)))), (1, .int (x2)), (0, .ref (al (1)))] 2 dX8_worstHour_27 rfl rfl (by decide) rfl ?_
        refine gx_goto X 4 dX8_worstHour_30 (by decide) ?_
        exact gx_sub [2, 1, 0] rfl (ih x2 (x2 + (1 : Int32)) ga6 h)
def m_X8_worstHour (g : Mm) : Option (Int32 × Mm) := m_X8_worstHour_4 fuL (0 : Int32) (1 : Int32) g
set_option maxHeartbeats 2000000 in
theorem c_X8_worstHour {r2 : Int32} {g g2 : Mm} (h : m_X8_worstHour g = some (r2, g2)) : gx_M 3 yX8_worstHour cX8_worstHour 3 (some .int) (fun al => [.ref (al (1))]) g (some (.int r2)) g2 := by
  have hd : 3 ≤ 3 := Nat.le_refl _
  refine gx_M.of (by decide +kernel) (fun _ => Nat.le_of_ble_eq_true rfl) ?_
  intro p l e R s m args below meth c D al cI cJ A X
  refine gx_eq (pc' := 0) (ls' := [(0, .ref (al (1)))]) (st' := []) (g' := g) ⟨rfl, rfl, rfl, rfl⟩ ?_
  unfold m_X8_worstHour at h
  refine gx_iconst X (v := (0 : Int32)) dX8_worstHour_0 (by decide) ?_
  refine gx_istore_n X [(1, .int ((0 : Int32))), (0, .ref (al (1)))] dX8_worstHour_1 (by decide) rfl ?_
  refine gx_iconst X (v := (1 : Int32)) dX8_worstHour_2 (by decide) ?_
  refine gx_istore_n X [(2, .int ((1 : Int32))), (1, .int ((0 : Int32))), (0, .ref (al (1)))] dX8_worstHour_3 (by decide) rfl ?_
  exact gx_sub [2, 1, 0] rfl (t_X8_worstHour_4 X hd fuL (0 : Int32) (1 : Int32) g h)
end DC
