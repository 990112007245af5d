section DC
variable {p : Program} {l : Launch} {e : Env} {R : Room} {s : State} {m : MethodId} {args : Array Value} {below : List Frame} {meth : Method} {c : Code} {D : va_G} {al : Nat → Nat} {cI cJ : ClassId} {A : Nat → Prop} {d : Nat}
theorem dX10_bitsOf_0 : decode cX10_bitsOf 0 = .ok (.iconst 0, 1) := by decide +kernel
theorem dX10_bitsOf_1 : decode cX10_bitsOf 1 = .ok (.istore_n 1, 1) := by decide +kernel
theorem dX10_bitsOf_2 : decode cX10_bitsOf 2 = .ok (.iload_n 0, 1) := by decide +kernel
theorem dX10_bitsOf_3 : decode cX10_bitsOf 3 = .ok (.istore_n 2, 1) := by decide +kernel
theorem dX10_bitsOf_4 : decode cX10_bitsOf 4 = .ok (.iload_n 2, 1) := by decide +kernel
theorem dX10_bitsOf_5 : decode cX10_bitsOf 5 = .ok (.ifCond .eq 15, 3) := by decide +kernel
theorem dX10_bitsOf_8 : decode cX10_bitsOf 8 = .ok (.iinc 1 1, 3) := by decide +kernel
theorem dX10_bitsOf_11 : decode cX10_bitsOf 11 = .ok (.iload_n 2, 1) := by decide +kernel
theorem dX10_bitsOf_12 : decode cX10_bitsOf 12 = .ok (.iload_n 2, 1) := by decide +kernel
theorem dX10_bitsOf_13 : decode cX10_bitsOf 13 = .ok (.iconst 1, 1) := by decide +kernel
theorem dX10_bitsOf_14 : decode cX10_bitsOf 14 = .ok (.isub, 1) := by decide +kernel
theorem dX10_bitsOf_15 : decode cX10_bitsOf 15 = .ok (.iand, 1) := by decide +kernel
theorem dX10_bitsOf_16 : decode cX10_bitsOf 16 = .ok (.istore_n 2, 1) := by decide +kernel
theorem dX10_bitsOf_17 : decode cX10_bitsOf 17 = .ok (.goto (-13), 3) := by decide +kernel
theorem dX10_bitsOf_20 : decode cX10_bitsOf 20 = .ok (.iload_n 1, 1) := by decide +kernel
theorem dX10_bitsOf_21 : decode cX10_bitsOf 21 = .ok (.ireturn, 1) := by decide +kernel
def m_X10_bitsOf_4 : Nat → Int32 → Int32 → Mm → Option (Int32 × Mm)
  | 0, _, _, _ => none
  | n + 1, x1, x2, g => (if x2 = (0 : Int32) then some (x1, g) else m_X10_bitsOf_4 n (x1 + (1 : Int32)) (x2 &&& (x2 - (1 : Int32))) g)
set_option maxHeartbeats 2000000 in
theorem t_X10_bitsOf_4 {r2 : Int32} {g2 : Mm} (X : gx_X p R s m args meth c D al cI cJ A RX10 cX10_bitsOf 3 (some .int) d 0 0) (hd : 1 ≤ d) : ∀ (n : Nat) (x1 : Int32) (x2 : Int32) (g : Mm), m_X10_bitsOf_4 n x1 x2 g = some (r2, g2) → gx_G p l e R s m args below meth c (gx_Q below args s D al cI cJ A (some (.int r2)) g2) D al cI cJ A 3 0 0 4 [(1, .int (x1)), (2, .int (x2))] [] g := by
  intro n
  induction n with
  | zero => intro x1 x2 g h; cases h
  | succ n ih =>
    intro x1 x2 g h
    rw [m_X10_bitsOf_4] at h
    refine gx_iload_n X 1 rfl dX10_bitsOf_4 ?_
    refine gx_if_eq X 20 dX10_bitsOf_5 (by decide) (fun q1 => ?_) (fun q1 => ?_)
    · replace h := (if_pos q1).symm.trans h
      refine gx_iload_n X 0 rfl dX10_bitsOf_20 ?_
      obtain ⟨rfl, rfl⟩ := ret_eq h
      exact gx_iret X rfl dX10_bitsOf_21
    · replace h := (if_neg q1).symm.trans h
      refine gx_iinc X [(1, .int ((x1 + (1 : Int32)))), (2, .int (x2))] 0 dX10_bitsOf_8 rfl rfl (by decide) rfl ?_
      refine gx_iload_n X 1 rfl dX10_bitsOf_11 ?_
      refine gx_iload_n X 1 rfl dX10_bitsOf_12 ?_
      refine gx_iconst X (v := (1 : Int32)) dX10_bitsOf_13 (by decide) ?_
      refine gx_isub X dX10_bitsOf_14 ?_
      refine gx_iand X dX10_bitsOf_15 ?_
      refine gx_istore_n X [(2, .int ((x2 &&& (x2 - (1 : Int32))))), (1, .int ((x1 + (1 : Int32))))] dX10_bitsOf_16 (by decide) rfl ?_
      refine gx_goto X 4 dX10_bitsOf_17 (by decide) ?_
      exact gx_sub [1, 0] rfl (ih (x1 + (1 : Int32)) (x2 &&& (x2 - (1 : Int32))) g h)
def m_X10_bitsOf (a0 : Int32) (g : Mm) : Option (Int32 × Mm) := m_X10_bitsOf_4 fuL (0 : Int32) a0 g
set_option maxHeartbeats 2000000 in
theorem c_X10_bitsOf {r2 : Int32} {g g2 : Mm} {a0 : Int32} (h : m_X10_bitsOf a0 g = some (r2, g2)) : gx_M 1 yX10_bitsOf cX10_bitsOf 3 (some .int) (fun al => [.int (a0)]) g (some (.int r2)) g2 := by
  have hd : 1 ≤ 1 := Nat.le_refl _
  refine gx_M.of (by decide +kernel) (fun _ => Nat.le_of_ble_eq_true rfl) ?_
  intro p l e R s m args below meth c D al cI cJ A X
  refine gx_eq (pc' := 0) (ls' := [(0, .int (a0))]) (st' := []) (g' := g) ⟨rfl, rfl, rfl, rfl⟩ ?_
  unfold m_X10_bitsOf at h
  refine gx_iconst X (v := (0 : Int32)) dX10_bitsOf_0 (by decide) ?_
  refine gx_istore_n X [(1, .int ((0 : Int32))), (0, .int (a0))] dX10_bitsOf_1 (by decide) rfl ?_
  refine gx_iload_n X 1 rfl dX10_bitsOf_2 ?_
  refine gx_istore_n X [(2, .int (a0)), (1, .int ((0 : Int32))), (0, .int (a0))] dX10_bitsOf_3 (by decide) rfl ?_
  exact gx_sub [1, 0] rfl (t_X10_bitsOf_4 X hd fuL (0 : Int32) a0 g h)
theorem dX10_striking_0 : decode cX10_striking 0 = .ok (.iconst 0, 1) := by decide +kernel
theorem dX10_striking_1 : decode cX10_striking 1 = .ok (.istore_n 3, 1) := by decide +kernel
theorem dX10_striking_2 : decode cX10_striking 2 = .ok (.iconst 0, 1) := by decide +kernel
theorem dX10_striking_3 : decode cX10_striking 3 = .ok (.istore 4, 2) := by decide +kernel
theorem dX10_striking_5 : decode cX10_striking 5 = .ok (.iload 4, 2) := by decide +kernel
theorem dX10_striking_7 : decode cX10_striking 7 = .ok (.aload_n 0, 1) := by decide +kernel
theorem dX10_striking_8 : decode cX10_striking 8 = .ok (.getfield 21, 3) := by decide +kernel
theorem dX10_striking_11 : decode cX10_striking 11 = .ok (.if_icmp .ge 36, 3) := by decide +kernel
theorem dX10_striking_14 : decode cX10_striking 14 = .ok (.iload_n 3, 1) := by decide +kernel
theorem dX10_striking_15 : decode cX10_striking 15 = .ok (.aload_n 0, 1) := by decide +kernel
theorem dX10_striking_16 : decode cX10_striking 16 = .ok (.getfield 28, 3) := by decide +kernel
theorem dX10_striking_19 : decode cX10_striking 19 = .ok (.bipush 6, 2) := by decide +kernel
theorem dX10_striking_21 : decode cX10_striking 21 = .ok (.iload 4, 2) := by decide +kernel
theorem dX10_striking_23 : decode cX10_striking 23 = .ok (.imul, 1) := by decide +kernel
theorem dX10_striking_24 : decode cX10_striking 24 = .ok (.iload_n 1, 1) := by decide +kernel
theorem dX10_striking_25 : decode cX10_striking 25 = .ok (.iadd, 1) := by decide +kernel
theorem dX10_striking_26 : decode cX10_striking 26 = .ok (.iaload, 1) := by decide +kernel
theorem dX10_striking_27 : decode cX10_striking 27 = .ok (.iload_n 2, 1) := by decide +kernel
theorem dX10_striking_28 : decode cX10_striking 28 = .ok (.if_icmp .ne 7, 3) := by decide +kernel
theorem dX10_striking_31 : decode cX10_striking 31 = .ok (.iconst 1, 1) := by decide +kernel
theorem dX10_striking_32 : decode cX10_striking 32 = .ok (.goto 4, 3) := by decide +kernel
theorem dX10_striking_35 : decode cX10_striking 35 = .ok (.iconst 0, 1) := by decide +kernel
theorem dX10_striking_36 : decode cX10_striking 36 = .ok (.iload 4, 2) := by decide +kernel
theorem dX10_striking_38 : decode cX10_striking 38 = .ok (.ishl, 1) := by decide +kernel
theorem dX10_striking_39 : decode cX10_striking 39 = .ok (.ior, 1) := by decide +kernel
theorem dX10_striking_40 : decode cX10_striking 40 = .ok (.istore_n 3, 1) := by decide +kernel
theorem dX10_striking_41 : decode cX10_striking 41 = .ok (.iinc 4 1, 3) := by decide +kernel
theorem dX10_striking_44 : decode cX10_striking 44 = .ok (.goto (-39), 3) := by decide +kernel
theorem dX10_striking_47 : decode cX10_striking 47 = .ok (.iload_n 3, 1) := by decide +kernel
theorem dX10_striking_48 : decode cX10_striking 48 = .ok (.ireturn, 1) := by decide +kernel
def m_X10_striking_5 : Nat → Int32 → Int32 → Int32 → Int32 → Mm → Option (Int32 × Mm)
  | 0, _, _, _, _, _ => none
  | n + 1, x1, x2, x3, x4, g => (if (rdI g 40 5) ≤ x4 then some (x3, g) else gdd (ixo (((6 : Int32) * x4) + x1) 144) ((if (rdI g 44 (((6 : Int32) * x4) + x1).toNatClampNeg) = x2 then m_X10_striking_5 n x1 x2 (x3 ||| (shlI (1 : Int32) x4)) (x4 + (1 : Int32)) g else m_X10_striking_5 n x1 x2 (x3 ||| (shlI (0 : Int32) x4)) (x4 + (1 : Int32)) g)))
set_option maxHeartbeats 2000000 in
theorem t_X10_striking_5 {r2 : Int32} {g2 : Mm} (X : gx_X p R s m args meth c D al cI cJ A RX10 cX10_striking 5 (some .int) d 0 0) (hd : 1 ≤ d) : ∀ (n : Nat) (x1 : Int32) (x2 : Int32) (x3 : Int32) (x4 : Int32) (g : Mm), m_X10_striking_5 n x1 x2 x3 x4 g = some (r2, g2) → gx_G p l e R s m args below meth c (gx_Q below args s D al cI cJ A (some (.int r2)) g2) D al cI cJ A 5 0 0 5 [(0, .ref (al (40))), (1, .int (x1)), (2, .int (x2)), (3, .int (x3)), (4, .int (x4))] [] g := by
  intro n
  induction n with
  | zero => intro x1 x2 x3 x4 g h; cases h
  | succ n ih =>
    intro x1 x2 x3 x4 g h
    rw [m_X10_striking_5] at h
    refine gx_iload X 4 rfl dX10_striking_5 ?_
    refine gx_aload_n X 0 rfl dX10_striking_7 ?_
    refine gx_getf X (40) lf_X10_21 (by decide) (cl_40 _ _) (v := .int ((rdI g 40 5))) rfl dX10_striking_8 ?_
    refine gx_icmp_ge X 47 dX10_striking_11 (by decide) (fun q1 => ?_) (fun q1 => ?_)
    · replace h := (if_pos q1).symm.trans h
      refine gx_iload_n X 3 rfl dX10_striking_47 ?_
      obtain ⟨rfl, rfl⟩ := ret_eq h
      exact gx_iret X rfl dX10_striking_48
    · replace h := (if_neg q1).symm.trans h
      refine gx_iload_n X 3 rfl dX10_striking_14 ?_
      refine gx_aload_n X 0 rfl dX10_striking_15 ?_
      refine gx_getf X (40) lf_X10_28 (by decide) (cl_40 _ _) (v := .ref (al (44))) rfl dX10_striking_16 ?_
      refine gx_bipush X (v := (6 : Int32)) dX10_striking_19 (by decide) ?_
      refine gx_iload X 4 rfl dX10_striking_21 ?_
      refine gx_imul X dX10_striking_23 ?_
      refine gx_iload_n X 1 rfl dX10_striking_24 ?_
      refine gx_iadd X dX10_striking_25 ?_
      obtain ⟨q2, h⟩ := gdd_eq h
      refine gx_iald X (44) 144 (by decide) (cl_44 _ _) q2 dX10_striking_26 ?_
      refine gx_iload_n X 2 rfl dX10_striking_27 ?_
      refine gx_icmp_ne X 35 dX10_striking_28 (by decide) (fun q3 => ?_) (fun q3 => ?_)
      · replace h := (if_neg q3).symm.trans h
        refine gx_iconst X (v := (0 : Int32)) dX10_striking_35 (by decide) ?_
        refine gx_iload X 4 rfl dX10_striking_36 ?_
        refine gx_ishl X dX10_striking_38 ?_
        refine gx_ior X dX10_striking_39 ?_
        refine gx_istore_n X [(3, .int ((x3 ||| (shlI (0 : Int32) x4)))), (0, .ref (al (40))), (1, .int (x1)), (2, .int (x2)), (4, .int (x4))] dX10_striking_40 (by decide) rfl ?_
        refine gx_iinc X [(4, .int ((x4 + (1 : Int32)))), (3, .int ((x3 ||| (shlI (0 : Int32) x4)))), (0, .ref (al (40))), (1, .int (x1)), (2, .int (x2))] 4 dX10_striking_41 rfl rfl (by decide) rfl ?_
        refine gx_goto X 5 dX10_striking_44 (by decide) ?_
        exact gx_sub [2, 3, 4, 1, 0] rfl (ih x1 x2 (x3 ||| (shlI (0 : Int32) x4)) (x4 + (1 : Int32)) g h)
      · replace h := (if_pos q3).symm.trans h
        refine gx_iconst X (v := (1 : Int32)) dX10_striking_31 (by decide) ?_
        refine gx_goto X 36 dX10_striking_32 (by decide) ?_
        refine gx_iload X 4 rfl dX10_striking_36 ?_
        refine gx_ishl X dX10_striking_38 ?_
        refine gx_ior X dX10_striking_39 ?_
        refine gx_istore_n X [(3, .int ((x3 ||| (shlI (1 : Int32) x4)))), (0, .ref (al (40))), (1, .int (x1)), (2, .int (x2)), (4, .int (x4))] dX10_striking_40 (by decide) rfl ?_
        refine gx_iinc X [(4, .int ((x4 + (1 : Int32)))), (3, .int ((x3 ||| (shlI (1 : Int32) x4)))), (0, .ref (al (40))), (1, .int (x1)), (2, .int (x2))] 4 dX10_striking_41 rfl rfl (by decide) rfl ?_
        refine gx_goto X 5 dX10_striking_44 (by decide) ?_
        exact gx_sub [2, 3, 4, 1, 0] rfl (ih x1 x2 (x3 ||| (shlI (1 : Int32) x4)) (x4 + (1 : Int32)) g h)
def m_X10_striking (a1 : Int32) (a2 : Int32) (g : Mm) : Option (Int32 × Mm) := m_X10_striking_5 fuL a1 a2 (0 : Int32) (0 : Int32) g
set_option maxHeartbeats 2000000 in
theorem c_X10_striking {r2 : Int32} {g g2 : Mm} {a1 : Int32} {a2 : Int32} (h : m_X10_striking a1 a2 g = some (r2, g2)) : gx_M 1 yX10_striking cX10_striking 5 (some .int) (fun al => [.ref (al (40)), .int (a1), .int (a2)]) g (some (.int r2)) g2 := by
  have hd : 1 ≤ 1 := Nat.le_refl _
  refine gx_M.of (by decide +kernel) (fun _ => Nat.le_of_ble_eq_true rfl) ?_
  intro p l e R s m args below meth c D al cI cJ A X
  refine gx_eq (pc' := 0) (ls' := [(0, .ref (al (40))), (1, .int (a1)), (2, .int (a2))]) (st' := []) (g' := g) ⟨rfl, rfl, rfl, rfl⟩ ?_
  unfold m_X10_striking at h
  refine gx_iconst X (v := (0 : Int32)) dX10_striking_0 (by decide) ?_
  refine gx_istore_n X [(3, .int ((0 : Int32))), (0, .ref (al (40))), (1, .int (a1)), (2, .int (a2))] dX10_striking_1 (by decide) rfl ?_
  refine gx_iconst X (v := (0 : Int32)) dX10_striking_2 (by decide) ?_
  refine gx_istore X [(4, .int ((0 : Int32))), (3, .int ((0 : Int32))), (0, .ref (al (40))), (1, .int (a1)), (2, .int (a2))] dX10_striking_3 (by decide) rfl ?_
  exact gx_sub [2, 3, 4, 1, 0] rfl (t_X10_striking_5 X hd fuL a1 a2 (0 : Int32) (0 : Int32) g h)
theorem dX10_alone_0 : decode cX10_alone 0 = .ok (.aload_n 0, 1) := by decide +kernel
theorem dX10_alone_1 : decode cX10_alone 1 = .ok (.iload_n 1, 1) := by decide +kernel
theorem dX10_alone_2 : decode cX10_alone 2 = .ok (.invokevirtual 100, 3) := by decide +kernel
theorem dX10_alone_5 : decode cX10_alone 5 = .ok (.ifCond .eq 17, 3) := by decide +kernel
theorem dX10_alone_8 : decode cX10_alone 8 = .ok (.iload_n 2, 1) := by decide +kernel
theorem dX10_alone_9 : decode cX10_alone 9 = .ok (.i2l, 1) := by decide +kernel
theorem dX10_alone_10 : decode cX10_alone 10 = .ok (.ldc2_w 264, 3) := by decide +kernel
theorem dX10_alone_13 : decode cX10_alone 13 = .ok (.ldc2_w 103, 3) := by decide +kernel
theorem dX10_alone_16 : decode cX10_alone 16 = .ok (.invokestatic 92, 3) := by decide +kernel
theorem dX10_alone_19 : decode cX10_alone 19 = .ok (.ifCond .ne 5, 3) := by decide +kernel
theorem dX10_alone_22 : decode cX10_alone 22 = .ok (.iconst (-1), 1) := by decide +kernel
theorem dX10_alone_23 : decode cX10_alone 23 = .ok (.ireturn, 1) := by decide +kernel
theorem dX10_alone_24 : decode cX10_alone 24 = .ok (.iload_n 2, 1) := by decide +kernel
theorem dX10_alone_25 : decode cX10_alone 25 = .ok (.ifCond .lt 10, 3) := by decide +kernel
theorem dX10_alone_28 : decode cX10_alone 28 = .ok (.aload_n 0, 1) := by decide +kernel
theorem dX10_alone_29 : decode cX10_alone 29 = .ok (.iload_n 1, 1) := by decide +kernel
theorem dX10_alone_30 : decode cX10_alone 30 = .ok (.iload_n 2, 1) := by decide +kernel
theorem dX10_alone_31 : decode cX10_alone 31 = .ok (.invokevirtual 269, 3) := by decide +kernel
theorem dX10_alone_34 : decode cX10_alone 34 = .ok (.ireturn, 1) := by decide +kernel
theorem dX10_alone_35 : decode cX10_alone 35 = .ok (.iconst 0, 1) := by decide +kernel
theorem dX10_alone_36 : decode cX10_alone 36 = .ok (.istore_n 3, 1) := by decide +kernel
theorem dX10_alone_37 : decode cX10_alone 37 = .ok (.iconst 0, 1) := by decide +kernel
theorem dX10_alone_38 : decode cX10_alone 38 = .ok (.istore 4, 2) := by decide +kernel
theorem dX10_alone_40 : decode cX10_alone 40 = .ok (.iload 4, 2) := by decide +kernel
theorem dX10_alone_42 : decode cX10_alone 42 = .ok (.bipush 15, 2) := by decide +kernel
theorem dX10_alone_44 : decode cX10_alone 44 = .ok (.if_icmp .gt 34, 3) := by decide +kernel
theorem dX10_alone_47 : decode cX10_alone 47 = .ok (.aload_n 0, 1) := by decide +kernel
theorem dX10_alone_48 : decode cX10_alone 48 = .ok (.iload_n 1, 1) := by decide +kernel
theorem dX10_alone_49 : decode cX10_alone 49 = .ok (.iload 4, 2) := by decide +kernel
theorem dX10_alone_51 : decode cX10_alone 51 = .ok (.invokevirtual 269, 3) := by decide +kernel
theorem dX10_alone_54 : decode cX10_alone 54 = .ok (.invokestatic 229, 3) := by decide +kernel
theorem dX10_alone_57 : decode cX10_alone 57 = .ok (.istore 5, 2) := by decide +kernel
theorem dX10_alone_59 : decode cX10_alone 59 = .ok (.iload 5, 2) := by decide +kernel
theorem dX10_alone_61 : decode cX10_alone 61 = .ok (.iload_n 3, 1) := by decide +kernel
theorem dX10_alone_62 : decode cX10_alone 62 = .ok (.if_icmp .le 8, 3) := by decide +kernel
theorem dX10_alone_65 : decode cX10_alone 65 = .ok (.iload 5, 2) := by decide +kernel
theorem dX10_alone_67 : decode cX10_alone 67 = .ok (.goto 4, 3) := by decide +kernel
theorem dX10_alone_70 : decode cX10_alone 70 = .ok (.iload_n 3, 1) := by decide +kernel
theorem dX10_alone_71 : decode cX10_alone 71 = .ok (.istore_n 3, 1) := by decide +kernel
theorem dX10_alone_72 : decode cX10_alone 72 = .ok (.iinc 4 1, 3) := by decide +kernel
theorem dX10_alone_75 : decode cX10_alone 75 = .ok (.goto (-35), 3) := by decide +kernel
theorem dX10_alone_78 : decode cX10_alone 78 = .ok (.iload_n 3, 1) := by decide +kernel
theorem dX10_alone_79 : decode cX10_alone 79 = .ok (.ireturn, 1) := by decide +kernel
def m_X10_alone_40 : Nat → Int32 → Int32 → Int32 → Mm → Option (Int32 × Mm)
  | 0, _, _, _, _ => none
  | n + 1, x1, x3, x4, g => (if (15 : Int32) < x4 then some (x3, g) else bdd (m_X10_striking x1 x4 g) (fun ra2 ga3 => bdd (m_X10_bitsOf ra2 ga3) (fun ra5 ga6 => (if ra5 ≤ x3 then m_X10_alone_40 n x1 x3 (x4 + (1 : Int32)) ga6 else m_X10_alone_40 n x1 ra5 (x4 + (1 : Int32)) ga6))))
set_option maxHeartbeats 2000000 in
theorem t_X10_alone_40 {r2 : Int32} {g2 : Mm} (X : gx_X p R s m args meth c D al cI cJ A RX10 cX10_alone 6 (some .int) d 0 0) (hd : 3 ≤ d) : ∀ (n : Nat) (x1 : Int32) (x3 : Int32) (x4 : Int32) (g : Mm), m_X10_alone_40 n x1 x3 x4 g = some (r2, g2) → gx_G p l e R s m args below meth c (gx_Q below args s D al cI cJ A (some (.int r2)) g2) D al cI cJ A 6 0 0 40 [(0, .ref (al (40))), (1, .int (x1)), (3, .int (x3)), (4, .int (x4))] [] g := by
  intro n
  induction n with
  | zero => intro x1 x3 x4 g h; cases h
  | succ n ih =>
    intro x1 x3 x4 g h
    rw [m_X10_alone_40] at h
    refine gx_iload X 3 rfl dX10_alone_40 ?_
    refine gx_bipush X (v := (15 : Int32)) dX10_alone_42 (by decide) ?_
    refine gx_icmp_gt X 78 dX10_alone_44 (by decide) (fun q1 => ?_) (fun q1 => ?_)
    · replace h := (if_pos q1).symm.trans h
      refine gx_iload_n X 2 rfl dX10_alone_78 ?_
      obtain ⟨rfl, rfl⟩ := ret_eq h
      exact gx_iret X rfl dX10_alone_79
    · replace h := (if_neg q1).symm.trans h
      refine gx_aload_n X 0 rfl dX10_alone_47 ?_
      refine gx_iload_n X 1 rfl dX10_alone_48 ?_
      refine gx_iload X 3 rfl dX10_alone_49 ?_
      obtain ⟨ra2, ga3, ca4, h⟩ := bdd_eq h
      refine gx_callVi X (40) (c_X10_striking ca4) lc_X10_striking li_X10_striking lm_X10_269 (by decide) (cl_40 _ _) rfl rfl rfl (Nat.le_trans (by decide) hd) rfl (Nat.le_of_ble_eq_true rfl) dX10_alone_51 ?_
      obtain ⟨ra5, ga6, ca7, h⟩ := bdd_eq h
      refine gx_callSi X (c_X10_bitsOf ca7) lc_X10_bitsOf li_X10_bitsOf lm_X10_229 rfl rfl (Nat.le_trans (by decide) hd) rfl (Nat.le_of_ble_eq_true rfl) dX10_alone_54 ?_
      refine gx_istore X [(5, .int (ra5)), (0, .ref (al (40))), (1, .int (x1)), (3, .int (x3)), (4, .int (x4))] dX10_alone_57 (by decide) rfl ?_
      refine gx_iload X 0 rfl dX10_alone_59 ?_
      refine gx_iload_n X 3 rfl dX10_alone_61 ?_
      refine gx_icmp_le X 70 dX10_alone_62 (by decide) (fun q8 => ?_) (fun q8 => ?_)
      · replace h := (if_pos q8).symm.trans h
        refine gx_iload_n X 3 rfl dX10_alone_70 ?_
        refine gx_istore_n X [(3, .int (x3)), (5, .int (ra5)), (0, .ref (al (40))), (1, .int (x1)), (4, .int (x4))] dX10_alone_71 (by decide) rfl ?_
        refine gx_iinc X [(4, .int ((x4 + (1 : Int32)))), (3, .int (x3)), (5, .int (ra5)), (0, .ref (al (40))), (1, .int (x1))] 4 dX10_alone_72 rfl rfl (by decide) rfl ?_
        refine gx_goto X 40 dX10_alone_75 (by decide) ?_
        exact gx_sub [3, 4, 1, 0] rfl (ih x1 x3 (x4 + (1 : Int32)) ga6 h)
      · replace h := (if_neg q8).symm.trans h
        refine gx_iload X 0 rfl dX10_alone_65 ?_
        refine gx_goto X 71 dX10_alone_67 (by decide) ?_
        refine gx_istore_n X [(3, .int (ra5)), (5, .int (ra5)), (0, .ref (al (40))), (1, .int (x1)), (4, .int (x4))] dX10_alone_71 (by decide) rfl ?_
        refine gx_iinc X [(4, .int ((x4 + (1 : Int32)))), (3, .int (ra5)), (5, .int (ra5)), (0, .ref (al (40))), (1, .int (x1))] 4 dX10_alone_72 rfl rfl (by decide) rfl ?_
        refine gx_goto X 40 dX10_alone_75 (by decide) ?_
        exact gx_sub [3, 4, 1, 0] rfl (ih x1 ra5 (x4 + (1 : Int32)) ga6 h)
def m_X10_alone (a1 : Int32) (a2 : Int32) (g : Mm) : Option (Int32 × Mm) := bdd (m_X10_isBell a1 g) (fun ra1 ga2 => (if ra1 = (0 : Int32) then some ((-1 : Int32), ga2) else bdd (m_X10_in (a2.toInt64) (-1 : Int64) (15 : Int64) ga2) (fun ra5 ga6 => (if ra5 = (0 : Int32) then some ((-1 : Int32), ga6) else (if a2 < (0 : Int32) then m_X10_alone_40 fuL a1 (0 : Int32) (0 : Int32) ga6 else bdd (m_X10_striking a1 a2 ga6) (fun ra10 ga11 => some (ra10, ga11)))))))
set_option maxHeartbeats 2000000 in
theorem c_X10_alone {r2 : Int32} {g g2 : Mm} {a1 : Int32} {a2 : Int32} (h : m_X10_alone a1 a2 g = some (r2, g2)) : gx_M 3 yX10_alone cX10_alone 6 (some .int) (fun al => [.ref (al (40)), .int (a1), .int (a2)]) g (some (.int r2)) g2 := by
  have hd : 3 ≤ 3 := Nat.le_refl _
  refine gx_M.of (by decide +kernel) (fun _ => Nat.le_of_ble_eq_true rfl) ?_
  intro p l e R s m args below meth c D al cI cJ A X
  refine gx_eq (pc' := 0) (ls' := [(0, .ref (al (40))), (1, .int (a1)), (2, .int (a2))]) (st' := []) (g' := g) ⟨rfl, rfl, rfl, rfl⟩ ?_
  unfold m_X10_alone at h
  refine gx_aload_n X 0 rfl dX10_alone_0 ?_
  refine gx_iload_n X 1 rfl dX10_alone_1 ?_
  obtain ⟨ra1, ga2, ca3, h⟩ := bdd_eq h
  refine gx_callVi X (40) (c_X10_isBell ca3) lc_X10_isBell li_X10_isBell lm_X10_100 (by decide) (cl_40 _ _) rfl rfl rfl (Nat.le_trans (by decide) hd) rfl (Nat.le_of_ble_eq_true rfl) dX10_alone_2 ?_
  refine gx_if_eq X 22 dX10_alone_5 (by decide) (fun q4 => ?_) (fun q4 => ?_)
  · replace h := (if_pos q4).symm.trans h
    refine gx_iconst X (v := (-1 : Int32)) dX10_alone_22 (by decide) ?_
    obtain ⟨rfl, rfl⟩ := ret_eq h
    exact gx_iret X rfl dX10_alone_23
  · replace h := (if_neg q4).symm.trans h
    refine gx_iload_n X 2 rfl dX10_alone_8 ?_
    refine gx_i2l X dX10_alone_9 ?_
    refine gx_ldc2 X (v := (-1 : Int64)) lk_X10_264 dX10_alone_10 ?_
    refine gx_ldc2 X (v := (15 : Int64)) lk_X10_103 dX10_alone_13 ?_
    obtain ⟨ra5, ga6, ca7, h⟩ := bdd_eq h
    refine gx_callSi X (c_X10_in ca7) lc_X10_in li_X10_in lm_X10_92 rfl rfl (Nat.le_trans (by decide) hd) rfl (Nat.le_of_ble_eq_true rfl) dX10_alone_16 ?_
    refine gx_if_ne X 24 dX10_alone_19 (by decide) (fun q8 => ?_) (fun q8 => ?_)
    · replace h := (if_neg q8).symm.trans h
      refine gx_iload_n X 2 rfl dX10_alone_24 ?_
      refine gx_if_lt X 35 dX10_alone_25 (by decide) (fun q9 => ?_) (fun q9 => ?_)
      · replace h := (if_pos q9).symm.trans h
        refine gx_iconst X (v := (0 : Int32)) dX10_alone_35 (by decide) ?_
        refine gx_istore_n X [(3, .int ((0 : Int32))), (0, .ref (al (40))), (1, .int (a1)), (2, .int (a2))] dX10_alone_36 (by decide) rfl ?_
        refine gx_iconst X (v := (0 : Int32)) dX10_alone_37 (by decide) ?_
        refine gx_istore X [(4, .int ((0 : Int32))), (3, .int ((0 : Int32))), (0, .ref (al (40))), (1, .int (a1)), (2, .int (a2))] dX10_alone_38 (by decide) rfl ?_
        exact gx_sub [2, 3, 1, 0] rfl (t_X10_alone_40 X hd fuL a1 (0 : Int32) (0 : Int32) ga6 h)
      · replace h := (if_neg q9).symm.trans h
        refine gx_aload_n X 0 rfl dX10_alone_28 ?_
        refine gx_iload_n X 1 rfl dX10_alone_29 ?_
        refine gx_iload_n X 2 rfl dX10_alone_30 ?_
        obtain ⟨ra10, ga11, ca12, h⟩ := bdd_eq h
        refine gx_callVi X (40) (c_X10_striking ca12) lc_X10_striking li_X10_striking lm_X10_269 (by decide) (cl_40 _ _) rfl rfl rfl (Nat.le_trans (by decide) hd) rfl (Nat.le_of_ble_eq_true rfl) dX10_alone_31 ?_
        obtain ⟨rfl, rfl⟩ := ret_eq h
        exact gx_iret X rfl dX10_alone_34
    · replace h := (if_pos q8).symm.trans h
      refine gx_iconst X (v := (-1 : Int32)) dX10_alone_22 (by decide) ?_
      obtain ⟨rfl, rfl⟩ := ret_eq h
      exact gx_iret X rfl dX10_alone_23
theorem dX10_areMixed_0 : decode cX10_areMixed 0 = .ok (.aload_n 0, 1) := by decide +kernel
theorem dX10_areMixed_1 : decode cX10_areMixed 1 = .ok (.getfield 31, 3) := by decide +kernel
theorem dX10_areMixed_4 : decode cX10_areMixed 4 = .ok (.iload_n 1, 1) := by decide +kernel
theorem dX10_areMixed_5 : decode cX10_areMixed 5 = .ok (.iaload, 1) := by decide +kernel
theorem dX10_areMixed_6 : decode cX10_areMixed 6 = .ok (.iload_n 2, 1) := by decide +kernel
theorem dX10_areMixed_7 : decode cX10_areMixed 7 = .ok (.ishr, 1) := by decide +kernel
theorem dX10_areMixed_8 : decode cX10_areMixed 8 = .ok (.iconst 1, 1) := by decide +kernel
theorem dX10_areMixed_9 : decode cX10_areMixed 9 = .ok (.iand, 1) := by decide +kernel
theorem dX10_areMixed_10 : decode cX10_areMixed 10 = .ok (.iconst 1, 1) := by decide +kernel
theorem dX10_areMixed_11 : decode cX10_areMixed 11 = .ok (.if_icmp .ne 7, 3) := by decide +kernel
theorem dX10_areMixed_14 : decode cX10_areMixed 14 = .ok (.iconst 1, 1) := by decide +kernel
theorem dX10_areMixed_15 : decode cX10_areMixed 15 = .ok (.goto 4, 3) := by decide +kernel
theorem dX10_areMixed_18 : decode cX10_areMixed 18 = .ok (.iconst 0, 1) := by decide +kernel
theorem dX10_areMixed_19 : decode cX10_areMixed 19 = .ok (.ireturn, 1) := by decide +kernel
def m_X10_areMixed (a1 : Int32) (a2 : Int32) (g : Mm) : Option (Int32 × Mm) := gdd (ixo a1 24) ((if ((shrI (rdI g 45 a1.toNatClampNeg) a2) &&& (1 : Int32)) = (1 : Int32) then some ((1 : Int32), g) else some ((0 : Int32), g)))
set_option maxHeartbeats 2000000 in
theorem c_X10_areMixed {r2 : Int32} {g g2 : Mm} {a1 : Int32} {a2 : Int32} (h : m_X10_areMixed a1 a2 g = some (r2, g2)) : gx_M 1 yX10_areMixed cX10_areMixed 3 (some .boolean) (fun al => [.ref (al (40)), .int (a1), .int (a2)]) g (some (.int r2)) g2 := by
  have hd : 1 ≤ 1 := Nat.le_refl _
  refine gx_M.of (by decide +kernel) (fun _ => Nat.le_of_ble_eq_true rfl) ?_
  intro p l e R s m args below meth c D al cI cJ A X
  refine gx_eq (pc' := 0) (ls' := [(0, .ref (al (40))), (1, .int (a1)), (2, .int (a2))]) (st' := []) (g' := g) ⟨rfl, rfl, rfl, rfl⟩ ?_
  unfold m_X10_areMixed at h
  refine gx_aload_n X 0 rfl dX10_areMixed_0 ?_
  refine gx_getf X (40) lf_X10_31 (by decide) (cl_40 _ _) (v := .ref (al (45))) rfl dX10_areMixed_1 ?_
  refine gx_iload_n X 1 rfl dX10_areMixed_4 ?_
  obtain ⟨q1, h⟩ := gdd_eq h
  refine gx_iald X (45) 24 (by decide) (cl_45 _ _) q1 dX10_areMixed_5 ?_
  refine gx_iload_n X 2 rfl dX10_areMixed_6 ?_
  refine gx_ishr X dX10_areMixed_7 ?_
  refine gx_iconst X (v := (1 : Int32)) dX10_areMixed_8 (by decide) ?_
  refine gx_iand X dX10_areMixed_9 ?_
  refine gx_iconst X (v := (1 : Int32)) dX10_areMixed_10 (by decide) ?_
  refine gx_icmp_ne X 18 dX10_areMixed_11 (by decide) (fun q2 => ?_) (fun q2 => ?_)
  · replace h := (if_neg q2).symm.trans h
    refine gx_iconst X (v := (0 : Int32)) dX10_areMixed_18 (by decide) ?_
    obtain ⟨rfl, rfl⟩ := ret_eq h
    exact gx_iret X rfl dX10_areMixed_19
  · replace h := (if_pos q2).symm.trans h
    refine gx_iconst X (v := (1 : Int32)) dX10_areMixed_14 (by decide) ?_
    refine gx_goto X 19 dX10_areMixed_15 (by decide) ?_
    obtain ⟨rfl, rfl⟩ := ret_eq h
    exact gx_iret X rfl dX10_areMixed_19
theorem dX10_lessOne_0 : decode cX10_lessOne 0 = .ok (.aload_n 0, 1) := by decide +kernel
theorem dX10_lessOne_1 : decode cX10_lessOne 1 = .ok (.getfield 28, 3) := by decide +kernel
theorem dX10_lessOne_4 : decode cX10_lessOne 4 = .ok (.bipush 6, 2) := by decide +kernel
theorem dX10_lessOne_6 : decode cX10_lessOne 6 = .ok (.iload_n 1, 1) := by decide +kernel
theorem dX10_lessOne_7 : decode cX10_lessOne 7 = .ok (.imul, 1) := by decide +kernel
theorem dX10_lessOne_8 : decode cX10_lessOne 8 = .ok (.iload_n 2, 1) := by decide +kernel
theorem dX10_lessOne_9 : decode cX10_lessOne 9 = .ok (.iadd, 1) := by decide +kernel
theorem dX10_lessOne_10 : decode cX10_lessOne 10 = .ok (.iaload, 1) := by decide +kernel
theorem dX10_lessOne_11 : decode cX10_lessOne 11 = .ok (.istore 4, 2) := by decide +kernel
theorem dX10_lessOne_13 : decode cX10_lessOne 13 = .ok (.iload_n 2, 1) := by decide +kernel
theorem dX10_lessOne_14 : decode cX10_lessOne 14 = .ok (.iload_n 3, 1) := by decide +kernel
theorem dX10_lessOne_15 : decode cX10_lessOne 15 = .ok (.if_icmp .ne 15, 3) := by decide +kernel
theorem dX10_lessOne_18 : decode cX10_lessOne 18 = .ok (.iload 4, 2) := by decide +kernel
theorem dX10_lessOne_20 : decode cX10_lessOne 20 = .ok (.ifCond .le 10, 3) := by decide +kernel
theorem dX10_lessOne_23 : decode cX10_lessOne 23 = .ok (.iload 4, 2) := by decide +kernel
theorem dX10_lessOne_25 : decode cX10_lessOne 25 = .ok (.iconst 1, 1) := by decide +kernel
theorem dX10_lessOne_26 : decode cX10_lessOne 26 = .ok (.isub, 1) := by decide +kernel
theorem dX10_lessOne_27 : decode cX10_lessOne 27 = .ok (.goto 5, 3) := by decide +kernel
theorem dX10_lessOne_30 : decode cX10_lessOne 30 = .ok (.iload 4, 2) := by decide +kernel
theorem dX10_lessOne_32 : decode cX10_lessOne 32 = .ok (.ireturn, 1) := by decide +kernel
def m_X10_lessOne (a1 : Int32) (a2 : Int32) (a3 : Int32) (g : Mm) : Option (Int32 × Mm) := gdd (ixo (((6 : Int32) * a1) + a2) 144) (lti (rdI g 44 (((6 : Int32) * a1) + a2).toNatClampNeg) (fun v2 => (if a2 = a3 then (if v2 ≤ (0 : Int32) then some (v2, g) else some ((v2 - (1 : Int32)), g)) else some (v2, g))))
set_option maxHeartbeats 2000000 in
theorem c_X10_lessOne {r2 : Int32} {g g2 : Mm} {a1 : Int32} {a2 : Int32} {a3 : Int32} (h : m_X10_lessOne a1 a2 a3 g = some (r2, g2)) : gx_M 1 yX10_lessOne cX10_lessOne 5 (some .int) (fun al => [.ref (al (40)), .int (a1), .int (a2), .int (a3)]) g (some (.int r2)) g2 := by
  have hd : 1 ≤ 1 := Nat.le_refl _
  refine gx_M.of (by decide +kernel) (fun _ => Nat.le_of_ble_eq_true rfl) ?_
  intro p l e R s m args below meth c D al cI cJ A X
  refine gx_eq (pc' := 0) (ls' := [(0, .ref (al (40))), (1, .int (a1)), (2, .int (a2)), (3, .int (a3))]) (st' := []) (g' := g) ⟨rfl, rfl, rfl, rfl⟩ ?_
  unfold m_X10_lessOne at h
  refine gx_aload_n X 0 rfl dX10_lessOne_0 ?_
  refine gx_getf X (40) lf_X10_28 (by decide) (cl_40 _ _) (v := .ref (al (44))) rfl dX10_lessOne_1 ?_
  refine gx_bipush X (v := (6 : Int32)) dX10_lessOne_4 (by decide) ?_
  refine gx_iload_n X 1 rfl dX10_lessOne_6 ?_
  refine gx_imul X dX10_lessOne_7 ?_
  refine gx_iload_n X 2 rfl dX10_lessOne_8 ?_
  refine gx_iadd X dX10_lessOne_9 ?_
  obtain ⟨q1, h⟩ := gdd_eq h
  refine gx_iald X (44) 144 (by decide) (cl_44 _ _) q1 dX10_lessOne_10 ?_
  obtain ⟨v2, ev2, h⟩ := lti_eq h
  refine gx_topi ev2 ?_
  refine gx_istore X [(4, .int (v2)), (0, .ref (al (40))), (1, .int (a1)), (2, .int (a2)), (3, .int (a3))] dX10_lessOne_11 (by decide) rfl ?_
  refine gx_iload_n X 3 rfl dX10_lessOne_13 ?_
  refine gx_iload_n X 4 rfl dX10_lessOne_14 ?_
  refine gx_icmp_ne X 30 dX10_lessOne_15 (by decide) (fun q3 => ?_) (fun q3 => ?_)
  · replace h := (if_neg q3).symm.trans h
    refine gx_iload X 0 rfl dX10_lessOne_30 ?_
    obtain ⟨rfl, rfl⟩ := ret_eq h
    exact gx_iret X rfl dX10_lessOne_32
  · replace h := (if_pos q3).symm.trans h
    refine gx_iload X 0 rfl dX10_lessOne_18 ?_
    refine gx_if_le X 30 dX10_lessOne_20 (by decide) (fun q4 => ?_) (fun q4 => ?_)
    · replace h := (if_pos q4).symm.trans h
      refine gx_iload X 0 rfl dX10_lessOne_30 ?_
      obtain ⟨rfl, rfl⟩ := ret_eq h
      exact gx_iret X rfl dX10_lessOne_32
    · replace h := (if_neg q4).symm.trans h
      refine gx_iload X 0 rfl dX10_lessOne_23 ?_
      refine gx_iconst X (v := (1 : Int32)) dX10_lessOne_25 (by decide) ?_
      refine gx_isub X dX10_lessOne_26 ?_
      refine gx_goto X 32 dX10_lessOne_27 (by decide) ?_
      obtain ⟨rfl, rfl⟩ := ret_eq h
      exact gx_iret X rfl dX10_lessOne_32
theorem dX10_couldBeAlike_0 : decode cX10_couldBeAlike 0 = .ok (.iconst (-1), 1) := by decide +kernel
theorem dX10_couldBeAlike_1 : decode cX10_couldBeAlike 1 = .ok (.istore 4, 2) := by decide +kernel
theorem dX10_couldBeAlike_3 : decode cX10_couldBeAlike 3 = .ok (.iload 4, 2) := by decide +kernel
theorem dX10_couldBeAlike_5 : decode cX10_couldBeAlike 5 = .ok (.aload_n 0, 1) := by decide +kernel
theorem dX10_couldBeAlike_6 : decode cX10_couldBeAlike 6 = .ok (.getfield 89, 3) := by decide +kernel
theorem dX10_couldBeAlike_9 : decode cX10_couldBeAlike 9 = .ok (.if_icmp .ge 131, 3) := by decide +kernel
theorem dX10_couldBeAlike_12 : decode cX10_couldBeAlike 12 = .ok (.iconst (-1), 1) := by decide +kernel
theorem dX10_couldBeAlike_13 : decode cX10_couldBeAlike 13 = .ok (.istore 5, 2) := by decide +kernel
theorem dX10_couldBeAlike_15 : decode cX10_couldBeAlike 15 = .ok (.iload 5, 2) := by decide +kernel
theorem dX10_couldBeAlike_17 : decode cX10_couldBeAlike 17 = .ok (.aload_n 0, 1) := by decide +kernel
theorem dX10_couldBeAlike_18 : decode cX10_couldBeAlike 18 = .ok (.getfield 89, 3) := by decide +kernel
theorem dX10_couldBeAlike_21 : decode cX10_couldBeAlike 21 = .ok (.if_icmp .ge 113, 3) := by decide +kernel
theorem dX10_couldBeAlike_24 : decode cX10_couldBeAlike 24 = .ok (.iload 4, 2) := by decide +kernel
theorem dX10_couldBeAlike_26 : decode cX10_couldBeAlike 26 = .ok (.ifCond .lt 13, 3) := by decide +kernel
theorem dX10_couldBeAlike_29 : decode cX10_couldBeAlike 29 = .ok (.iload_n 3, 1) := by decide +kernel
theorem dX10_couldBeAlike_30 : decode cX10_couldBeAlike 30 = .ok (.iload 4, 2) := by decide +kernel
theorem dX10_couldBeAlike_32 : decode cX10_couldBeAlike 32 = .ok (.ishr, 1) := by decide +kernel
theorem dX10_couldBeAlike_33 : decode cX10_couldBeAlike 33 = .ok (.iconst 1, 1) := by decide +kernel
theorem dX10_couldBeAlike_34 : decode cX10_couldBeAlike 34 = .ok (.iand, 1) := by decide +kernel
theorem dX10_couldBeAlike_35 : decode cX10_couldBeAlike 35 = .ok (.iconst 1, 1) := by decide +kernel
theorem dX10_couldBeAlike_36 : decode cX10_couldBeAlike 36 = .ok (.if_icmp .ne 22, 3) := by decide +kernel
theorem dX10_couldBeAlike_39 : decode cX10_couldBeAlike 39 = .ok (.iload 5, 2) := by decide +kernel
theorem dX10_couldBeAlike_41 : decode cX10_couldBeAlike 41 = .ok (.ifCond .lt 13, 3) := by decide +kernel
theorem dX10_couldBeAlike_44 : decode cX10_couldBeAlike 44 = .ok (.iload_n 3, 1) := by decide +kernel
theorem dX10_couldBeAlike_45 : decode cX10_couldBeAlike 45 = .ok (.iload 5, 2) := by decide +kernel
theorem dX10_couldBeAlike_47 : decode cX10_couldBeAlike 47 = .ok (.ishr, 1) := by decide +kernel
theorem dX10_couldBeAlike_48 : decode cX10_couldBeAlike 48 = .ok (.iconst 1, 1) := by decide +kernel
theorem dX10_couldBeAlike_49 : decode cX10_couldBeAlike 49 = .ok (.iand, 1) := by decide +kernel
theorem dX10_couldBeAlike_50 : decode cX10_couldBeAlike 50 = .ok (.iconst 1, 1) := by decide +kernel
theorem dX10_couldBeAlike_51 : decode cX10_couldBeAlike 51 = .ok (.if_icmp .ne 7, 3) := by decide +kernel
theorem dX10_couldBeAlike_54 : decode cX10_couldBeAlike 54 = .ok (.iconst 1, 1) := by decide +kernel
theorem dX10_couldBeAlike_55 : decode cX10_couldBeAlike 55 = .ok (.goto 4, 3) := by decide +kernel
theorem dX10_couldBeAlike_58 : decode cX10_couldBeAlike 58 = .ok (.iconst 0, 1) := by decide +kernel
theorem dX10_couldBeAlike_59 : decode cX10_couldBeAlike 59 = .ok (.istore 6, 2) := by decide +kernel
theorem dX10_couldBeAlike_61 : decode cX10_couldBeAlike 61 = .ok (.iconst 0, 1) := by decide +kernel
theorem dX10_couldBeAlike_62 : decode cX10_couldBeAlike 62 = .ok (.istore 7, 2) := by decide +kernel
theorem dX10_couldBeAlike_64 : decode cX10_couldBeAlike 64 = .ok (.iload 7, 2) := by decide +kernel
theorem dX10_couldBeAlike_66 : decode cX10_couldBeAlike 66 = .ok (.aload_n 0, 1) := by decide +kernel
theorem dX10_couldBeAlike_67 : decode cX10_couldBeAlike 67 = .ok (.getfield 89, 3) := by decide +kernel
theorem dX10_couldBeAlike_70 : decode cX10_couldBeAlike 70 = .ok (.if_icmp .ge 51, 3) := by decide +kernel
theorem dX10_couldBeAlike_73 : decode cX10_couldBeAlike 73 = .ok (.iload 6, 2) := by decide +kernel
theorem dX10_couldBeAlike_75 : decode cX10_couldBeAlike 75 = .ok (.ifCond .eq 46, 3) := by decide +kernel
theorem dX10_couldBeAlike_78 : decode cX10_couldBeAlike 78 = .ok (.iload_n 3, 1) := by decide +kernel
theorem dX10_couldBeAlike_79 : decode cX10_couldBeAlike 79 = .ok (.iload 7, 2) := by decide +kernel
theorem dX10_couldBeAlike_81 : decode cX10_couldBeAlike 81 = .ok (.ishr, 1) := by decide +kernel
theorem dX10_couldBeAlike_82 : decode cX10_couldBeAlike 82 = .ok (.iconst 1, 1) := by decide +kernel
theorem dX10_couldBeAlike_83 : decode cX10_couldBeAlike 83 = .ok (.iand, 1) := by decide +kernel
theorem dX10_couldBeAlike_84 : decode cX10_couldBeAlike 84 = .ok (.ifCond .eq 24, 3) := by decide +kernel
theorem dX10_couldBeAlike_87 : decode cX10_couldBeAlike 87 = .ok (.aload_n 0, 1) := by decide +kernel
theorem dX10_couldBeAlike_88 : decode cX10_couldBeAlike 88 = .ok (.iload_n 1, 1) := by decide +kernel
theorem dX10_couldBeAlike_89 : decode cX10_couldBeAlike 89 = .ok (.iload 7, 2) := by decide +kernel
theorem dX10_couldBeAlike_91 : decode cX10_couldBeAlike 91 = .ok (.iload 4, 2) := by decide +kernel
theorem dX10_couldBeAlike_93 : decode cX10_couldBeAlike 93 = .ok (.invokevirtual 257, 3) := by decide +kernel
theorem dX10_couldBeAlike_96 : decode cX10_couldBeAlike 96 = .ok (.aload_n 0, 1) := by decide +kernel
theorem dX10_couldBeAlike_97 : decode cX10_couldBeAlike 97 = .ok (.iload_n 2, 1) := by decide +kernel
theorem dX10_couldBeAlike_98 : decode cX10_couldBeAlike 98 = .ok (.iload 7, 2) := by decide +kernel
theorem dX10_couldBeAlike_100 : decode cX10_couldBeAlike 100 = .ok (.iload 5, 2) := by decide +kernel
theorem dX10_couldBeAlike_102 : decode cX10_couldBeAlike 102 = .ok (.invokevirtual 257, 3) := by decide +kernel
theorem dX10_couldBeAlike_105 : decode cX10_couldBeAlike 105 = .ok (.if_icmp .ne 7, 3) := by decide +kernel
theorem dX10_couldBeAlike_108 : decode cX10_couldBeAlike 108 = .ok (.iconst 1, 1) := by decide +kernel
theorem dX10_couldBeAlike_109 : decode cX10_couldBeAlike 109 = .ok (.goto 4, 3) := by decide +kernel
theorem dX10_couldBeAlike_112 : decode cX10_couldBeAlike 112 = .ok (.iconst 0, 1) := by decide +kernel
theorem dX10_couldBeAlike_113 : decode cX10_couldBeAlike 113 = .ok (.istore 6, 2) := by decide +kernel
theorem dX10_couldBeAlike_115 : decode cX10_couldBeAlike 115 = .ok (.iinc 7 1, 3) := by decide +kernel
theorem dX10_couldBeAlike_118 : decode cX10_couldBeAlike 118 = .ok (.goto (-54), 3) := by decide +kernel
theorem dX10_couldBeAlike_121 : decode cX10_couldBeAlike 121 = .ok (.iload 6, 2) := by decide +kernel
theorem dX10_couldBeAlike_123 : decode cX10_couldBeAlike 123 = .ok (.ifCond .eq 5, 3) := by decide +kernel
theorem dX10_couldBeAlike_126 : decode cX10_couldBeAlike 126 = .ok (.iconst 1, 1) := by decide +kernel
theorem dX10_couldBeAlike_127 : decode cX10_couldBeAlike 127 = .ok (.ireturn, 1) := by decide +kernel
theorem dX10_couldBeAlike_128 : decode cX10_couldBeAlike 128 = .ok (.iinc 5 1, 3) := by decide +kernel
theorem dX10_couldBeAlike_131 : decode cX10_couldBeAlike 131 = .ok (.goto (-116), 3) := by decide +kernel
theorem dX10_couldBeAlike_134 : decode cX10_couldBeAlike 134 = .ok (.iinc 4 1, 3) := by decide +kernel
theorem dX10_couldBeAlike_137 : decode cX10_couldBeAlike 137 = .ok (.goto (-134), 3) := by decide +kernel
theorem dX10_couldBeAlike_140 : decode cX10_couldBeAlike 140 = .ok (.iconst 0, 1) := by decide +kernel
theorem dX10_couldBeAlike_141 : decode cX10_couldBeAlike 141 = .ok (.ireturn, 1) := by decide +kernel
def m_X10_couldBeAlike_121 (K15 : Int32 → Int32 → Int32 → Int32 → Int32 → Mm → Option (Int32 × Mm)) (x1 : Int32) (x2 : Int32) (x3 : Int32) (x4 : Int32) (x5 : Int32) (x6 : Int32) (g : Mm) : Option (Int32 × Mm) := (if x6 = (0 : Int32) then K15 x1 x2 x3 x4 (x5 + (1 : Int32)) g else some ((1 : Int32), g))
set_option maxHeartbeats 2000000 in
theorem t_X10_couldBeAlike_121 {r2 : Int32} {g2 : Mm} (X : gx_X p R s m args meth c D al cI cJ A RX10 cX10_couldBeAlike 8 (some .boolean) d 0 0) (hd : 2 ≤ d) {K15 : Int32 → Int32 → Int32 → Int32 → Int32 → Mm → Option (Int32 × Mm)} (hK15 : ∀ (u0 : Int32) (u1 : Int32) (u2 : Int32) (u3 : Int32) (u4 : Int32) (g : Mm), K15 u0 u1 u2 u3 u4 g = some (r2, g2) → gx_G p l e R s m args below meth c (gx_Q below args s D al cI cJ A (some (.int r2)) g2) D al cI cJ A 8 0 0 15 [(0, .ref (al (40))), (1, .int (u0)), (2, .int (u1)), (3, .int (u2)), (4, .int (u3)), (5, .int (u4))] [] g) : ∀ (x1 : Int32) (x2 : Int32) (x3 : Int32) (x4 : Int32) (x5 : Int32) (x6 : Int32) (g : Mm), m_X10_couldBeAlike_121 K15 x1 x2 x3 x4 x5 x6 g = some (r2, g2) → gx_G p l e R s m args below meth c (gx_Q below args s D al cI cJ A (some (.int r2)) g2) D al cI cJ A 8 0 0 121 [(0, .ref (al (40))), (1, .int (x1)), (2, .int (x2)), (3, .int (x3)), (4, .int (x4)), (5, .int (x5)), (6, .int (x6))] [] g := by
  intro x1 x2 x3 x4 x5 x6 g h
  unfold m_X10_couldBeAlike_121 at h
  refine gx_iload X 6 rfl dX10_couldBeAlike_121 ?_
  refine gx_if_eq X 128 dX10_couldBeAlike_123 (by decide) (fun q1 => ?_) (fun q1 => ?_)
  · replace h := (if_pos q1).symm.trans h
    refine gx_iinc X [(5, .int ((x5 + (1 : Int32)))), (0, .ref (al (40))), (1, .int (x1)), (2, .int (x2)), (3, .int (x3)), (4, .int (x4)), (6, .int (x6))] 5 dX10_couldBeAlike_128 rfl rfl (by decide) rfl ?_
    refine gx_goto X 15 dX10_couldBeAlike_131 (by decide) ?_
    exact gx_sub [1, 2, 3, 4, 5, 0] rfl (hK15 x1 x2 x3 x4 (x5 + (1 : Int32)) g h)
  · replace h := (if_neg q1).symm.trans h
    refine gx_iconst X (v := (1 : Int32)) dX10_couldBeAlike_126 (by decide) ?_
    obtain ⟨rfl, rfl⟩ := ret_eq h
    exact gx_iret X rfl dX10_couldBeAlike_127
def m_X10_couldBeAlike_64 (K15 : Int32 → Int32 → Int32 → Int32 → Int32 → Mm → Option (Int32 × Mm)) : Nat → Int32 → Int32 → Int32 → Int32 → Int32 → Int32 → Int32 → Mm → Option (Int32 × Mm)
  | 0, _, _, _, _, _, _, _, _ => none
  | n + 1, x1, x2, x3, x4, x5, x6, x7, g => (if (rdI g 40 4) ≤ x7 then m_X10_couldBeAlike_121 (K15) x1 x2 x3 x4 x5 x6 g else (if x6 = (0 : Int32) then m_X10_couldBeAlike_121 (K15) x1 x2 x3 x4 x5 x6 g else (if ((shrI x3 x7) &&& (1 : Int32)) = (0 : Int32) then m_X10_couldBeAlike_64 K15 n x1 x2 x3 x4 x5 (1 : Int32) (x7 + (1 : Int32)) g else bdd (m_X10_lessOne x1 x7 x4 g) (fun ra4 ga5 => bdd (m_X10_lessOne x2 x7 x5 ga5) (fun ra7 ga8 => (if ra4 = ra7 then m_X10_couldBeAlike_64 K15 n x1 x2 x3 x4 x5 (1 : Int32) (x7 + (1 : Int32)) ga8 else m_X10_couldBeAlike_64 K15 n x1 x2 x3 x4 x5 (0 : Int32) (x7 + (1 : Int32)) ga8))))))
set_option maxHeartbeats 2000000 in
theorem t_X10_couldBeAlike_64 {r2 : Int32} {g2 : Mm} (X : gx_X p R s m args meth c D al cI cJ A RX10 cX10_couldBeAlike 8 (some .boolean) d 0 0) (hd : 2 ≤ d) {K15 : Int32 → Int32 → Int32 → Int32 → Int32 → Mm → Option (Int32 × Mm)} (hK15 : ∀ (u0 : Int32) (u1 : Int32) (u2 : Int32) (u3 : Int32) (u4 : Int32) (g : Mm), K15 u0 u1 u2 u3 u4 g = some (r2, g2) → gx_G p l e R s m args below meth c (gx_Q below args s D al cI cJ A (some (.int r2)) g2) D al cI cJ A 8 0 0 15 [(0, .ref (al (40))), (1, .int (u0)), (2, .int (u1)), (3, .int (u2)), (4, .int (u3)), (5, .int (u4))] [] g) : ∀ (n : Nat) (x1 : Int32) (x2 : Int32) (x3 : Int32) (x4 : Int32) (x5 : Int32) (x6 : Int32) (x7 : Int32) (g : Mm), m_X10_couldBeAlike_64 K15 n x1 x2 x3 x4 x5 x6 x7 g = some (r2, g2) → gx_G p l e R s m args below meth c (gx_Q below args s D al cI cJ A (some (.int r2)) g2) D al cI cJ A 8 0 0 64 [(0, .ref (al (40))), (1, .int (x1)), (2, .int (x2)), (3, .int (x3)), (4, .int (x4)), (5, .int (x5)), (6, .int (x6)), (7, .int (x7))] [] g := by
  intro n
  induction n with
  | zero => intro x1 x2 x3 x4 x5 x6 x7 g h; cases h
  | succ n ih =>
    intro x1 x2 x3 x4 x5 x6 x7 g h
    rw [m_X10_couldBeAlike_64] at h
    refine gx_iload X 7 rfl dX10_couldBeAlike_64 ?_
    refine gx_aload_n X 0 rfl dX10_couldBeAlike_66 ?_
    refine gx_getf X (40) lf_X10_89 (by decide) (cl_40 _ _) (v := .int ((rdI g 40 4))) rfl dX10_couldBeAlike_67 ?_
    refine gx_icmp_ge X 121 dX10_couldBeAlike_70 (by decide) (fun q1 => ?_) (fun q1 => ?_)
    · replace h := (if_pos q1).symm.trans h
      exact gx_sub [0, 1, 2, 3, 4, 5, 6] rfl (t_X10_couldBeAlike_121 X hd (fun u0 u1 u2 u3 u4 g h => hK15 u0 u1 u2 u3 u4 g h) x1 x2 x3 x4 x5 x6 g h)
    · replace h := (if_neg q1).symm.trans h
      refine gx_iload X 6 rfl dX10_couldBeAlike_73 ?_
      refine gx_if_eq X 121 dX10_couldBeAlike_75 (by decide) (fun q2 => ?_) (fun q2 => ?_)
      · replace h := (if_pos q2).symm.trans h
        exact gx_sub [0, 1, 2, 3, 4, 5, 6] rfl (t_X10_couldBeAlike_121 X hd (fun u0 u1 u2 u3 u4 g h => hK15 u0 u1 u2 u3 u4 g h) x1 x2 x3 x4 x5 x6 g h)
      · replace h := (if_neg q2).symm.trans h
        refine gx_iload_n X 3 rfl dX10_couldBeAlike_78 ?_
        refine gx_iload X 7 rfl dX10_couldBeAlike_79 ?_
        refine gx_ishr X dX10_couldBeAlike_81 ?_
        refine gx_iconst X (v := (1 : Int32)) dX10_couldBeAlike_82 (by decide) ?_
        refine gx_iand X dX10_couldBeAlike_83 ?_
        refine gx_if_eq X 108 dX10_couldBeAlike_84 (by decide) (fun q3 => ?_) (fun q3 => ?_)
        · replace h := (if_pos q3).symm.trans h
          refine gx_iconst X (v := (1 : Int32)) dX10_couldBeAlike_108 (by decide) ?_
          refine gx_goto X 113 dX10_couldBeAlike_109 (by decide) ?_
          refine gx_istore X [(6, .int ((1 : Int32))), (0, .ref (al (40))), (1, .int (x1)), (2, .int (x2)), (3, .int (x3)), (4, .int (x4)), (5, .int (x5)), (7, .int (x7))] dX10_couldBeAlike_113 (by decide) rfl ?_
          refine gx_iinc X [(7, .int ((x7 + (1 : Int32)))), (6, .int ((1 : Int32))), (0, .ref (al (40))), (1, .int (x1)), (2, .int (x2)), (3, .int (x3)), (4, .int (x4)), (5, .int (x5))] 7 dX10_couldBeAlike_115 rfl rfl (by decide) rfl ?_
          refine gx_goto X 64 dX10_couldBeAlike_118 (by decide) ?_
          exact gx_sub [2, 3, 4, 5, 6, 7, 1, 0] rfl (ih x1 x2 x3 x4 x5 (1 : Int32) (x7 + (1 : Int32)) g h)
        · replace h := (if_neg q3).symm.trans h
          refine gx_aload_n X 0 rfl dX10_couldBeAlike_87 ?_
          refine gx_iload_n X 1 rfl dX10_couldBeAlike_88 ?_
          refine gx_iload X 7 rfl dX10_couldBeAlike_89 ?_
          refine gx_iload X 4 rfl dX10_couldBeAlike_91 ?_
          obtain ⟨ra4, ga5, ca6, h⟩ := bdd_eq h
          refine gx_callVi X (40) (c_X10_lessOne ca6) lc_X10_lessOne li_X10_lessOne lm_X10_257 (by decide) (cl_40 _ _) rfl rfl rfl (Nat.le_trans (by decide) hd) rfl (Nat.le_of_ble_eq_true rfl) dX10_couldBeAlike_93 ?_
          refine gx_aload_n X 0 rfl dX10_couldBeAlike_96 ?_
          refine gx_iload_n X 2 rfl dX10_couldBeAlike_97 ?_
          refine gx_iload X 7 rfl dX10_couldBeAlike_98 ?_
          refine gx_iload X 5 rfl dX10_couldBeAlike_100 ?_
          obtain ⟨ra7, ga8, ca9, h⟩ := bdd_eq h
          refine gx_callVi X (40) (c_X10_lessOne ca9) lc_X10_lessOne li_X10_lessOne lm_X10_257 (by decide) (cl_40 _ _) rfl rfl rfl (Nat.le_trans (by decide) hd) rfl (Nat.le_of_ble_eq_true rfl) dX10_couldBeAlike_102 ?_
          refine gx_icmp_ne X 112 dX10_couldBeAlike_105 (by decide) (fun q10 => ?_) (fun q10 => ?_)
          · replace h := (if_neg q10).symm.trans h
            refine gx_iconst X (v := (0 : Int32)) dX10_couldBeAlike_112 (by decide) ?_
            refine gx_istore X [(6, .int ((0 : Int32))), (0, .ref (al (40))), (1, .int (x1)), (2, .int (x2)), (3, .int (x3)), (4, .int (x4)), (5, .int (x5)), (7, .int (x7))] dX10_couldBeAlike_113 (by decide) rfl ?_
            refine gx_iinc X [(7, .int ((x7 + (1 : Int32)))), (6, .int ((0 : Int32))), (0, .ref (al (40))), (1, .int (x1)), (2, .int (x2)), (3, .int (x3)), (4, .int (x4)), (5, .int (x5))] 7 dX10_couldBeAlike_115 rfl rfl (by decide) rfl ?_
            refine gx_goto X 64 dX10_couldBeAlike_118 (by decide) ?_
            exact gx_sub [2, 3, 4, 5, 6, 7, 1, 0] rfl (ih x1 x2 x3 x4 x5 (0 : Int32) (x7 + (1 : Int32)) ga8 h)
          · replace h := (if_pos q10).symm.trans h
            refine gx_iconst X (v := (1 : Int32)) dX10_couldBeAlike_108 (by decide) ?_
            refine gx_goto X 113 dX10_couldBeAlike_109 (by decide) ?_
            refine gx_istore X [(6, .int ((1 : Int32))), (0, .ref (al (40))), (1, .int (x1)), (2, .int (x2)), (3, .int (x3)), (4, .int (x4)), (5, .int (x5)), (7, .int (x7))] dX10_couldBeAlike_113 (by decide) rfl ?_
            refine gx_iinc X [(7, .int ((x7 + (1 : Int32)))), (6, .int ((1 : Int32))), (0, .ref (al (40))), (1, .int (x1)), (2, .int (x2)), (3, .int (x3)), (4, .int (x4)), (5, .int (x5))] 7 dX10_couldBeAlike_115 rfl rfl (by decide) rfl ?_
            refine gx_goto X 64 dX10_couldBeAlike_118 (by decide) ?_
            exact gx_sub [2, 3, 4, 5, 6, 7, 1, 0] rfl (ih x1 x2 x3 x4 x5 (1 : Int32) (x7 + (1 : Int32)) ga8 h)
def m_X10_couldBeAlike_39 (K64 : Int32 → Int32 → Int32 → Int32 → Int32 → Int32 → Int32 → Mm → Option (Int32 × Mm)) (x1 : Int32) (x2 : Int32) (x3 : Int32) (x4 : Int32) (x5 : Int32) (g : Mm) : Option (Int32 × Mm) := (if x5 < (0 : Int32) then K64 x1 x2 x3 x4 x5 (1 : Int32) (0 : Int32) g else (if ((shrI x3 x5) &&& (1 : Int32)) = (1 : Int32) then K64 x1 x2 x3 x4 x5 (1 : Int32) (0 : Int32) g else K64 x1 x2 x3 x4 x5 (0 : Int32) (0 : Int32) g))
set_option maxHeartbeats 2000000 in
theorem t_X10_couldBeAlike_39 {r2 : Int32} {g2 : Mm} (X : gx_X p R s m args meth c D al cI cJ A RX10 cX10_couldBeAlike 8 (some .boolean) d 0 0) (hd : 2 ≤ d) {K64 : Int32 → Int32 → Int32 → Int32 → Int32 → Int32 → Int32 → Mm → Option (Int32 × Mm)} (hK64 : ∀ (u0 : Int32) (u1 : Int32) (u2 : Int32) (u3 : Int32) (u4 : Int32) (u5 : Int32) (u6 : Int32) (g : Mm), K64 u0 u1 u2 u3 u4 u5 u6 g = some (r2, g2) → gx_G p l e R s m args below meth c (gx_Q below args s D al cI cJ A (some (.int r2)) g2) D al cI cJ A 8 0 0 64 [(0, .ref (al (40))), (1, .int (u0)), (2, .int (u1)), (3, .int (u2)), (4, .int (u3)), (5, .int (u4)), (6, .int (u5)), (7, .int (u6))] [] g) : ∀ (x1 : Int32) (x2 : Int32) (x3 : Int32) (x4 : Int32) (x5 : Int32) (g : Mm), m_X10_couldBeAlike_39 K64 x1 x2 x3 x4 x5 g = some (r2, g2) → gx_G p l e R s m args below meth c (gx_Q below args s D al cI cJ A (some (.int r2)) g2) D al cI cJ A 8 0 0 39 [(0, .ref (al (40))), (1, .int (x1)), (2, .int (x2)), (3, .int (x3)), (4, .int (x4)), (5, .int (x5))] [] g := by
  intro x1 x2 x3 x4 x5 g h
  unfold m_X10_couldBeAlike_39 at h
  refine gx_iload X 5 rfl dX10_couldBeAlike_39 ?_
  refine gx_if_lt X 54 dX10_couldBeAlike_41 (by decide) (fun q1 => ?_) (fun q1 => ?_)
  · replace h := (if_pos q1).symm.trans h
    refine gx_iconst X (v := (1 : Int32)) dX10_couldBeAlike_54 (by decide) ?_
    refine gx_goto X 59 dX10_couldBeAlike_55 (by decide) ?_
    refine gx_istore X [(6, .int ((1 : Int32))), (0, .ref (al (40))), (1, .int (x1)), (2, .int (x2)), (3, .int (x3)), (4, .int (x4)), (5, .int (x5))] dX10_couldBeAlike_59 (by decide) rfl ?_
    refine gx_iconst X (v := (0 : Int32)) dX10_couldBeAlike_61 (by decide) ?_
    refine gx_istore X [(7, .int ((0 : Int32))), (6, .int ((1 : Int32))), (0, .ref (al (40))), (1, .int (x1)), (2, .int (x2)), (3, .int (x3)), (4, .int (x4)), (5, .int (x5))] dX10_couldBeAlike_62 (by decide) rfl ?_
    exact gx_sub [2, 3, 4, 5, 6, 7, 1, 0] rfl (hK64 x1 x2 x3 x4 x5 (1 : Int32) (0 : Int32) g h)
  · replace h := (if_neg q1).symm.trans h
    refine gx_iload_n X 3 rfl dX10_couldBeAlike_44 ?_
    refine gx_iload X 5 rfl dX10_couldBeAlike_45 ?_
    refine gx_ishr X dX10_couldBeAlike_47 ?_
    refine gx_iconst X (v := (1 : Int32)) dX10_couldBeAlike_48 (by decide) ?_
    refine gx_iand X dX10_couldBeAlike_49 ?_
    refine gx_iconst X (v := (1 : Int32)) dX10_couldBeAlike_50 (by decide) ?_
    refine gx_icmp_ne X 58 dX10_couldBeAlike_51 (by decide) (fun q2 => ?_) (fun q2 => ?_)
    · replace h := (if_neg q2).symm.trans h
      refine gx_iconst X (v := (0 : Int32)) dX10_couldBeAlike_58 (by decide) ?_
      refine gx_istore X [(6, .int ((0 : Int32))), (0, .ref (al (40))), (1, .int (x1)), (2, .int (x2)), (3, .int (x3)), (4, .int (x4)), (5, .int (x5))] dX10_couldBeAlike_59 (by decide) rfl ?_
      refine gx_iconst X (v := (0 : Int32)) dX10_couldBeAlike_61 (by decide) ?_
      refine gx_istore X [(7, .int ((0 : Int32))), (6, .int ((0 : Int32))), (0, .ref (al (40))), (1, .int (x1)), (2, .int (x2)), (3, .int (x3)), (4, .int (x4)), (5, .int (x5))] dX10_couldBeAlike_62 (by decide) rfl ?_
      exact gx_sub [2, 3, 4, 5, 6, 7, 1, 0] rfl (hK64 x1 x2 x3 x4 x5 (0 : Int32) (0 : Int32) g h)
    · replace h := (if_pos q2).symm.trans h
      refine gx_iconst X (v := (1 : Int32)) dX10_couldBeAlike_54 (by decide) ?_
      refine gx_goto X 59 dX10_couldBeAlike_55 (by decide) ?_
      refine gx_istore X [(6, .int ((1 : Int32))), (0, .ref (al (40))), (1, .int (x1)), (2, .int (x2)), (3, .int (x3)), (4, .int (x4)), (5, .int (x5))] dX10_couldBeAlike_59 (by decide) rfl ?_
      refine gx_iconst X (v := (0 : Int32)) dX10_couldBeAlike_61 (by decide) ?_
      refine gx_istore X [(7, .int ((0 : Int32))), (6, .int ((1 : Int32))), (0, .ref (al (40))), (1, .int (x1)), (2, .int (x2)), (3, .int (x3)), (4, .int (x4)), (5, .int (x5))] dX10_couldBeAlike_62 (by decide) rfl ?_
      exact gx_sub [2, 3, 4, 5, 6, 7, 1, 0] rfl (hK64 x1 x2 x3 x4 x5 (1 : Int32) (0 : Int32) g h)
def m_X10_couldBeAlike_15 (K3 : Int32 → Int32 → Int32 → Int32 → Mm → Option (Int32 × Mm)) : Nat → Int32 → Int32 → Int32 → Int32 → Int32 → Mm → Option (Int32 × Mm)
  | 0, _, _, _, _, _, _ => none
  | n + 1, x1, x2, x3, x4, x5, g => (if (rdI g 40 4) ≤ x5 then K3 x1 x2 x3 (x4 + (1 : Int32)) g else (if x4 < (0 : Int32) then m_X10_couldBeAlike_39 (m_X10_couldBeAlike_64 (m_X10_couldBeAlike_15 K3 n) fuL) x1 x2 x3 x4 x5 g else (if ((shrI x3 x4) &&& (1 : Int32)) = (1 : Int32) then m_X10_couldBeAlike_39 (m_X10_couldBeAlike_64 (m_X10_couldBeAlike_15 K3 n) fuL) x1 x2 x3 x4 x5 g else m_X10_couldBeAlike_64 (m_X10_couldBeAlike_15 K3 n) fuL x1 x2 x3 x4 x5 (0 : Int32) (0 : Int32) g)))
set_option maxHeartbeats 2000000 in
theorem t_X10_couldBeAlike_15 {r2 : Int32} {g2 : Mm} (X : gx_X p R s m args meth c D al cI cJ A RX10 cX10_couldBeAlike 8 (some .boolean) d 0 0) (hd : 2 ≤ d) {K3 : Int32 → Int32 → Int32 → Int32 → Mm → Option (Int32 × Mm)} (hK3 : ∀ (u0 : Int32) (u1 : Int32) (u2 : Int32) (u3 : Int32) (g : Mm), K3 u0 u1 u2 u3 g = some (r2, g2) → gx_G p l e R s m args below meth c (gx_Q below args s D al cI cJ A (some (.int r2)) g2) D al cI cJ A 8 0 0 3 [(0, .ref (al (40))), (1, .int (u0)), (2, .int (u1)), (3, .int (u2)), (4, .int (u3))] [] g) : ∀ (n : Nat) (x1 : Int32) (x2 : Int32) (x3 : Int32) (x4 : Int32) (x5 : Int32) (g : Mm), m_X10_couldBeAlike_15 K3 n x1 x2 x3 x4 x5 g = some (r2, g2) → gx_G p l e R s m args below meth c (gx_Q below args s D al cI cJ A (some (.int r2)) g2) D al cI cJ A 8 0 0 15 [(0, .ref (al (40))), (1, .int (x1)), (2, .int (x2)), (3, .int (x3)), (4, .int (x4)), (5, .int (x5))] [] g := by
  intro n
  induction n with
  | zero => intro x1 x2 x3 x4 x5 g h; cases h
  | succ n ih =>
    intro x1 x2 x3 x4 x5 g h
    rw [m_X10_couldBeAlike_15] at h
    refine gx_iload X 5 rfl dX10_couldBeAlike_15 ?_
    refine gx_aload_n X 0 rfl dX10_couldBeAlike_17 ?_
    refine gx_getf X (40) lf_X10_89 (by decide) (cl_40 _ _) (v := .int ((rdI g 40 4))) rfl dX10_couldBeAlike_18 ?_
    refine gx_icmp_ge X 134 dX10_couldBeAlike_21 (by decide) (fun q1 => ?_) (fun q1 => ?_)
    · replace h := (if_pos q1).symm.trans h
      refine gx_iinc X [(4, .int ((x4 + (1 : Int32)))), (0, .ref (al (40))), (1, .int (x1)), (2, .int (x2)), (3, .int (x3)), (5, .int (x5))] 4 dX10_couldBeAlike_134 rfl rfl (by decide) rfl ?_
      refine gx_goto X 3 dX10_couldBeAlike_137 (by decide) ?_
      exact gx_sub [1, 2, 3, 4, 0] rfl (hK3 x1 x2 x3 (x4 + (1 : Int32)) g h)
    · replace h := (if_neg q1).symm.trans h
      refine gx_iload X 4 rfl dX10_couldBeAlike_24 ?_
      refine gx_if_lt X 39 dX10_couldBeAlike_26 (by decide) (fun q2 => ?_) (fun q2 => ?_)
      · replace h := (if_pos q2).symm.trans h
        exact gx_sub [0, 1, 2, 3, 4, 5] rfl (t_X10_couldBeAlike_39 X hd (fun u0 u1 u2 u3 u4 u5 u6 g h => t_X10_couldBeAlike_64 X hd (fun u0 u1 u2 u3 u4 g h => ih u0 u1 u2 u3 u4 g h) fuL u0 u1 u2 u3 u4 u5 u6 g h) x1 x2 x3 x4 x5 g h)
      · replace h := (if_neg q2).symm.trans h
        refine gx_iload_n X 3 rfl dX10_couldBeAlike_29 ?_
        refine gx_iload X 4 rfl dX10_couldBeAlike_30 ?_
        refine gx_ishr X dX10_couldBeAlike_32 ?_
        refine gx_iconst X (v := (1 : Int32)) dX10_couldBeAlike_33 (by decide) ?_
        refine gx_iand X dX10_couldBeAlike_34 ?_
        refine gx_iconst X (v := (1 : Int32)) dX10_couldBeAlike_35 (by decide) ?_
        refine gx_icmp_ne X 58 dX10_couldBeAlike_36 (by decide) (fun q3 => ?_) (fun q3 => ?_)
        · replace h := (if_neg q3).symm.trans h
          refine gx_iconst X (v := (0 : Int32)) dX10_couldBeAlike_58 (by decide) ?_
          refine gx_istore X [(6, .int ((0 : Int32))), (0, .ref (al (40))), (1, .int (x1)), (2, .int (x2)), (3, .int (x3)), (4, .int (x4)), (5, .int (x5))] dX10_couldBeAlike_59 (by decide) rfl ?_
          refine gx_iconst X (v := (0 : Int32)) dX10_couldBeAlike_61 (by decide) ?_
          refine gx_istore X [(7, .int ((0 : Int32))), (6, .int ((0 : Int32))), (0, .ref (al (40))), (1, .int (x1)), (2, .int (x2)), (3, .int (x3)), (4, .int (x4)), (5, .int (x5))] dX10_couldBeAlike_62 (by decide) rfl ?_
          exact gx_sub [2, 3, 4, 5, 6, 7, 1, 0] rfl (t_X10_couldBeAlike_64 X hd (fun u0 u1 u2 u3 u4 g h => ih u0 u1 u2 u3 u4 g h) fuL x1 x2 x3 x4 x5 (0 : Int32) (0 : Int32) g h)
        · replace h := (if_pos q3).symm.trans h
          exact gx_sub [0, 1, 2, 3, 4, 5] rfl (t_X10_couldBeAlike_39 X hd (fun u0 u1 u2 u3 u4 u5 u6 g h => t_X10_couldBeAlike_64 X hd (fun u0 u1 u2 u3 u4 g h => ih u0 u1 u2 u3 u4 g h) fuL u0 u1 u2 u3 u4 u5 u6 g h) x1 x2 x3 x4 x5 g h)
def m_X10_couldBeAlike_3 : Nat → Int32 → Int32 → Int32 → Int32 → Mm → Option (Int32 × Mm)
  | 0, _, _, _, _, _ => none
  | n + 1, x1, x2, x3, x4, g => (if (rdI g 40 4) ≤ x4 then some ((0 : Int32), g) else m_X10_couldBeAlike_15 (m_X10_couldBeAlike_3 n) fuL x1 x2 x3 x4 (-1 : Int32) g)
set_option maxHeartbeats 2000000 in
theorem t_X10_couldBeAlike_3 {r2 : Int32} {g2 : Mm} (X : gx_X p R s m args meth c D al cI cJ A RX10 cX10_couldBeAlike 8 (some .boolean) d 0 0) (hd : 2 ≤ d) : ∀ (n : Nat) (x1 : Int32) (x2 : Int32) (x3 : Int32) (x4 : Int32) (g : Mm), m_X10_couldBeAlike_3 n x1 x2 x3 x4 g = some (r2, g2) → gx_G p l e R s m args below meth c (gx_Q below args s D al cI cJ A (some (.int r2)) g2) D al cI cJ A 8 0 0 3 [(0, .ref (al (40))), (1, .int (x1)), (2, .int (x2)), (3, .int (x3)), (4, .int (x4))] [] g := by
  intro n
  induction n with
  | zero => intro x1 x2 x3 x4 g h; cases h
  | succ n ih =>
    intro x1 x2 x3 x4 g h
    rw [m_X10_couldBeAlike_3] at h
    refine gx_iload X 4 rfl dX10_couldBeAlike_3 ?_
    refine gx_aload_n X 0 rfl dX10_couldBeAlike_5 ?_
    refine gx_getf X (40) lf_X10_89 (by decide) (cl_40 _ _) (v := .int ((rdI g 40 4))) rfl dX10_couldBeAlike_6 ?_
    refine gx_icmp_ge X 140 dX10_couldBeAlike_9 (by decide) (fun q1 => ?_) (fun q1 => ?_)
    · replace h := (if_pos q1).symm.trans h
      refine gx_iconst X (v := (0 : Int32)) dX10_couldBeAlike_140 (by decide) ?_
      obtain ⟨rfl, rfl⟩ := ret_eq h
      exact gx_iret X rfl dX10_couldBeAlike_141
    · replace h := (if_neg q1).symm.trans h
      refine gx_iconst X (v := (-1 : Int32)) dX10_couldBeAlike_12 (by decide) ?_
      refine gx_istore X [(5, .int ((-1 : Int32))), (0, .ref (al (40))), (1, .int (x1)), (2, .int (x2)), (3, .int (x3)), (4, .int (x4))] dX10_couldBeAlike_13 (by decide) rfl ?_
      exact gx_sub [1, 2, 3, 4, 5, 0] rfl (t_X10_couldBeAlike_15 X hd (fun u0 u1 u2 u3 g h => ih u0 u1 u2 u3 g h) fuL x1 x2 x3 x4 (-1 : Int32) g h)
def m_X10_couldBeAlike (a1 : Int32) (a2 : Int32) (a3 : Int32) (g : Mm) : Option (Int32 × Mm) := m_X10_couldBeAlike_3 fuL a1 a2 a3 (-1 : Int32) g
set_option maxHeartbeats 2000000 in
theorem c_X10_couldBeAlike {r2 : Int32} {g g2 : Mm} {a1 : Int32} {a2 : Int32} {a3 : Int32} (h : m_X10_couldBeAlike a1 a2 a3 g = some (r2, g2)) : gx_M 2 yX10_couldBeAlike cX10_couldBeAlike 8 (some .boolean) (fun al => [.ref (al (40)), .int (a1), .int (a2), .int (a3)]) g (some (.int r2)) g2 := by
  have hd : 2 ≤ 2 := Nat.le_refl _
  refine gx_M.of (by decide +kernel) (fun _ => Nat.le_of_ble_eq_true rfl) ?_
  intro p l e R s m args below meth c D al cI cJ A X
  refine gx_eq (pc' := 0) (ls' := [(0, .ref (al (40))), (1, .int (a1)), (2, .int (a2)), (3, .int (a3))]) (st' := []) (g' := g) ⟨rfl, rfl, rfl, rfl⟩ ?_
  unfold m_X10_couldBeAlike at h
  refine gx_iconst X (v := (-1 : Int32)) dX10_couldBeAlike_0 (by decide) ?_
  refine gx_istore X [(4, .int ((-1 : Int32))), (0, .ref (al (40))), (1, .int (a1)), (2, .int (a2)), (3, .int (a3))] dX10_couldBeAlike_1 (by decide) rfl ?_
  exact gx_sub [1, 2, 3, 4, 0] rfl (t_X10_couldBeAlike_3 X hd fuL a1 a2 a3 (-1 : Int32) g h)
theorem dX10_bears_0 : decode cX10_bears 0 = .ok (.aload_n 0, 1) := by decide +kernel
theorem dX10_bears_1 : decode cX10_bears 1 = .ok (.getfield 89, 3) := by decide +kernel
theorem dX10_bears_4 : decode cX10_bears 4 = .ok (.ifCond .ne 6, 3) := by decide +kernel
theorem dX10_bears_7 : decode cX10_bears 7 = .ok (.bipush (-5), 2) := by decide +kernel
theorem dX10_bears_9 : decode cX10_bears 9 = .ok (.ireturn, 1) := by decide +kernel
theorem dX10_bears_10 : decode cX10_bears 10 = .ok (.aload_n 0, 1) := by decide +kernel
theorem dX10_bears_11 : decode cX10_bears 11 = .ok (.invokevirtual 251, 3) := by decide +kernel
theorem dX10_bears_14 : decode cX10_bears 14 = .ok (.istore_n 1, 1) := by decide +kernel
theorem dX10_bears_15 : decode cX10_bears 15 = .ok (.iconst 0, 1) := by decide +kernel
theorem dX10_bears_16 : decode cX10_bears 16 = .ok (.istore_n 2, 1) := by decide +kernel
theorem dX10_bears_17 : decode cX10_bears 17 = .ok (.iload_n 2, 1) := by decide +kernel
theorem dX10_bears_18 : decode cX10_bears 18 = .ok (.iconst 1, 1) := by decide +kernel
theorem dX10_bears_19 : decode cX10_bears 19 = .ok (.aload_n 0, 1) := by decide +kernel
theorem dX10_bears_20 : decode cX10_bears 20 = .ok (.getfield 89, 3) := by decide +kernel
theorem dX10_bears_23 : decode cX10_bears 23 = .ok (.ishl, 1) := by decide +kernel
theorem dX10_bears_24 : decode cX10_bears 24 = .ok (.if_icmp .ge 76, 3) := by decide +kernel
theorem dX10_bears_27 : decode cX10_bears 27 = .ok (.iload_n 2, 1) := by decide +kernel
theorem dX10_bears_28 : decode cX10_bears 28 = .ok (.invokestatic 229, 3) := by decide +kernel
theorem dX10_bears_31 : decode cX10_bears 31 = .ok (.iload_n 1, 1) := by decide +kernel
theorem dX10_bears_32 : decode cX10_bears 32 = .ok (.if_icmp .ne 62, 3) := by decide +kernel
theorem dX10_bears_35 : decode cX10_bears 35 = .ok (.iconst 0, 1) := by decide +kernel
theorem dX10_bears_36 : decode cX10_bears 36 = .ok (.istore_n 3, 1) := by decide +kernel
theorem dX10_bears_37 : decode cX10_bears 37 = .ok (.iload_n 3, 1) := by decide +kernel
theorem dX10_bears_38 : decode cX10_bears 38 = .ok (.aload_n 0, 1) := by decide +kernel
theorem dX10_bears_39 : decode cX10_bears 39 = .ok (.getfield 21, 3) := by decide +kernel
theorem dX10_bears_42 : decode cX10_bears 42 = .ok (.if_icmp .ge 52, 3) := by decide +kernel
theorem dX10_bears_45 : decode cX10_bears 45 = .ok (.iload_n 3, 1) := by decide +kernel
theorem dX10_bears_46 : decode cX10_bears 46 = .ok (.iconst 1, 1) := by decide +kernel
theorem dX10_bears_47 : decode cX10_bears 47 = .ok (.iadd, 1) := by decide +kernel
theorem dX10_bears_48 : decode cX10_bears 48 = .ok (.istore 4, 2) := by decide +kernel
theorem dX10_bears_50 : decode cX10_bears 50 = .ok (.iload 4, 2) := by decide +kernel
theorem dX10_bears_52 : decode cX10_bears 52 = .ok (.aload_n 0, 1) := by decide +kernel
theorem dX10_bears_53 : decode cX10_bears 53 = .ok (.getfield 21, 3) := by decide +kernel
theorem dX10_bears_56 : decode cX10_bears 56 = .ok (.if_icmp .ge 32, 3) := by decide +kernel
theorem dX10_bears_59 : decode cX10_bears 59 = .ok (.aload_n 0, 1) := by decide +kernel
theorem dX10_bears_60 : decode cX10_bears 60 = .ok (.iload_n 3, 1) := by decide +kernel
theorem dX10_bears_61 : decode cX10_bears 61 = .ok (.iload 4, 2) := by decide +kernel
theorem dX10_bears_63 : decode cX10_bears 63 = .ok (.invokevirtual 232, 3) := by decide +kernel
theorem dX10_bears_66 : decode cX10_bears 66 = .ok (.ifCond .ne 16, 3) := by decide +kernel
theorem dX10_bears_69 : decode cX10_bears 69 = .ok (.aload_n 0, 1) := by decide +kernel
theorem dX10_bears_70 : decode cX10_bears 70 = .ok (.iload_n 3, 1) := by decide +kernel
theorem dX10_bears_71 : decode cX10_bears 71 = .ok (.iload 4, 2) := by decide +kernel
theorem dX10_bears_73 : decode cX10_bears 73 = .ok (.iload_n 2, 1) := by decide +kernel
theorem dX10_bears_74 : decode cX10_bears 74 = .ok (.invokevirtual 260, 3) := by decide +kernel
theorem dX10_bears_77 : decode cX10_bears 77 = .ok (.ifCond .eq 5, 3) := by decide +kernel
theorem dX10_bears_80 : decode cX10_bears 80 = .ok (.iconst 0, 1) := by decide +kernel
theorem dX10_bears_81 : decode cX10_bears 81 = .ok (.ireturn, 1) := by decide +kernel
theorem dX10_bears_82 : decode cX10_bears 82 = .ok (.iinc 4 1, 3) := by decide +kernel
theorem dX10_bears_85 : decode cX10_bears 85 = .ok (.goto (-35), 3) := by decide +kernel
theorem dX10_bears_88 : decode cX10_bears 88 = .ok (.iinc 3 1, 3) := by decide +kernel
theorem dX10_bears_91 : decode cX10_bears 91 = .ok (.goto (-54), 3) := by decide +kernel
theorem dX10_bears_94 : decode cX10_bears 94 = .ok (.iinc 2 1, 3) := by decide +kernel
theorem dX10_bears_97 : decode cX10_bears 97 = .ok (.goto (-80), 3) := by decide +kernel
theorem dX10_bears_100 : decode cX10_bears 100 = .ok (.iconst 1, 1) := by decide +kernel
theorem dX10_bears_101 : decode cX10_bears 101 = .ok (.ireturn, 1) := by decide +kernel
def m_X10_bears_50 (K37 : Int32 → Int32 → Int32 → Mm → Option (Int32 × Mm)) : Nat → Int32 → Int32 → Int32 → Int32 → Mm → Option (Int32 × Mm)
  | 0, _, _, _, _, _ => none
  | n + 1, x1, x2, x3, x4, g => (if (rdI g 40 5) ≤ x4 then K37 x1 x2 (x3 + (1 : Int32)) g else bdd (m_X10_areMixed x3 x4 g) (fun ra2 ga3 => (if ra2 = (0 : Int32) then bdd (m_X10_couldBeAlike x3 x4 x2 ga3) (fun ra6 ga7 => (if ra6 = (0 : Int32) then m_X10_bears_50 K37 n x1 x2 x3 (x4 + (1 : Int32)) ga7 else some ((0 : Int32), ga7))) else m_X10_bears_50 K37 n x1 x2 x3 (x4 + (1 : Int32)) ga3)))
set_option maxHeartbeats 2000000 in
theorem t_X10_bears_50 {r2 : Int32} {g2 : Mm} (X : gx_X p R s m args meth c D al cI cJ A RX10 cX10_bears 5 (some .int) d 0 0) (hd : 3 ≤ d) {K37 : Int32 → Int32 → Int32 → Mm → Option (Int32 × Mm)} (hK37 : ∀ (u0 : Int32) (u1 : Int32) (u2 : Int32) (g : Mm), K37 u0 u1 u2 g = some (r2, g2) → gx_G p l e R s m args below meth c (gx_Q below args s D al cI cJ A (some (.int r2)) g2) D al cI cJ A 5 0 0 37 [(0, .ref (al (40))), (1, .int (u0)), (2, .int (u1)), (3, .int (u2))] [] g) : ∀ (n : Nat) (x1 : Int32) (x2 : Int32) (x3 : Int32) (x4 : Int32) (g : Mm), m_X10_bears_50 K37 n x1 x2 x3 x4 g = some (r2, g2) → gx_G p l e R s m args below meth c (gx_Q below args s D al cI cJ A (some (.int r2)) g2) D al cI cJ A 5 0 0 50 [(0, .ref (al (40))), (1, .int (x1)), (2, .int (x2)), (3, .int (x3)), (4, .int (x4))] [] g := by
  intro n
  induction n with
  | zero => intro x1 x2 x3 x4 g h; cases h
  | succ n ih =>
    intro x1 x2 x3 x4 g h
    rw [m_X10_bears_50] at h
    refine gx_iload X 4 rfl dX10_bears_50 ?_
    refine gx_aload_n X 0 rfl dX10_bears_52 ?_
    refine gx_getf X (40) lf_X10_21 (by decide) (cl_40 _ _) (v := .int ((rdI g 40 5))) rfl dX10_bears_53 ?_
    refine gx_icmp_ge X 88 dX10_bears_56 (by decide) (fun q1 => ?_) (fun q1 => ?_)
    · replace h := (if_pos q1).symm.trans h
      refine gx_iinc X [(3, .int ((x3 + (1 : Int32)))), (0, .ref (al (40))), (1, .int (x1)), (2, .int (x2)), (4, .int (x4))] 3 dX10_bears_88 rfl rfl (by decide) rfl ?_
      refine gx_goto X 37 dX10_bears_91 (by decide) ?_
      exact gx_sub [1, 2, 3, 0] rfl (hK37 x1 x2 (x3 + (1 : Int32)) g h)
    · replace h := (if_neg q1).symm.trans h
      refine gx_aload_n X 0 rfl dX10_bears_59 ?_
      refine gx_iload_n X 3 rfl dX10_bears_60 ?_
      refine gx_iload X 4 rfl dX10_bears_61 ?_
      obtain ⟨ra2, ga3, ca4, h⟩ := bdd_eq h
      refine gx_callVi X (40) (c_X10_areMixed ca4) lc_X10_areMixed li_X10_areMixed lm_X10_232 (by decide) (cl_40 _ _) rfl rfl rfl (Nat.le_trans (by decide) hd) rfl (Nat.le_of_ble_eq_true rfl) dX10_bears_63 ?_
      refine gx_if_ne X 82 dX10_bears_66 (by decide) (fun q5 => ?_) (fun q5 => ?_)
      · replace h := (if_neg q5).symm.trans h
        refine gx_iinc X [(4, .int ((x4 + (1 : Int32)))), (0, .ref (al (40))), (1, .int (x1)), (2, .int (x2)), (3, .int (x3))] 4 dX10_bears_82 rfl rfl (by decide) rfl ?_
        refine gx_goto X 50 dX10_bears_85 (by decide) ?_
        exact gx_sub [1, 2, 3, 4, 0] rfl (ih x1 x2 x3 (x4 + (1 : Int32)) ga3 h)
      · replace h := (if_pos q5).symm.trans h
        refine gx_aload_n X 0 rfl dX10_bears_69 ?_
        refine gx_iload_n X 3 rfl dX10_bears_70 ?_
        refine gx_iload X 4 rfl dX10_bears_71 ?_
        refine gx_iload_n X 2 rfl dX10_bears_73 ?_
        obtain ⟨ra6, ga7, ca8, h⟩ := bdd_eq h
        refine gx_callVi X (40) (c_X10_couldBeAlike ca8) lc_X10_couldBeAlike li_X10_couldBeAlike lm_X10_260 (by decide) (cl_40 _ _) rfl rfl rfl (Nat.le_trans (by decide) hd) rfl (Nat.le_of_ble_eq_true rfl) dX10_bears_74 ?_
        refine gx_if_eq X 82 dX10_bears_77 (by decide) (fun q9 => ?_) (fun q9 => ?_)
        · replace h := (if_pos q9).symm.trans h
          refine gx_iinc X [(4, .int ((x4 + (1 : Int32)))), (0, .ref (al (40))), (1, .int (x1)), (2, .int (x2)), (3, .int (x3))] 4 dX10_bears_82 rfl rfl (by decide) rfl ?_
          refine gx_goto X 50 dX10_bears_85 (by decide) ?_
          exact gx_sub [1, 2, 3, 4, 0] rfl (ih x1 x2 x3 (x4 + (1 : Int32)) ga7 h)
        · replace h := (if_neg q9).symm.trans h
          refine gx_iconst X (v := (0 : Int32)) dX10_bears_80 (by decide) ?_
          obtain ⟨rfl, rfl⟩ := ret_eq h
          exact gx_iret X rfl dX10_bears_81
def m_X10_bears_37 (K17 : Int32 → Int32 → Mm → Option (Int32 × Mm)) : Nat → Int32 → Int32 → Int32 → Mm → Option (Int32 × Mm)
  | 0, _, _, _, _ => none
  | n + 1, x1, x2, x3, g => (if (rdI g 40 5) ≤ x3 then K17 x1 (x2 + (1 : Int32)) g else m_X10_bears_50 (m_X10_bears_37 K17 n) fuL x1 x2 x3 (x3 + (1 : Int32)) g)
set_option maxHeartbeats 2000000 in
theorem t_X10_bears_37 {r2 : Int32} {g2 : Mm} (X : gx_X p R s m args meth c D al cI cJ A RX10 cX10_bears 5 (some .int) d 0 0) (hd : 3 ≤ d) {K17 : Int32 → Int32 → Mm → Option (Int32 × Mm)} (hK17 : ∀ (u0 : Int32) (u1 : Int32) (g : Mm), K17 u0 u1 g = some (r2, g2) → gx_G p l e R s m args below meth c (gx_Q below args s D al cI cJ A (some (.int r2)) g2) D al cI cJ A 5 0 0 17 [(0, .ref (al (40))), (1, .int (u0)), (2, .int (u1))] [] g) : ∀ (n : Nat) (x1 : Int32) (x2 : Int32) (x3 : Int32) (g : Mm), m_X10_bears_37 K17 n x1 x2 x3 g = some (r2, g2) → gx_G p l e R s m args below meth c (gx_Q below args s D al cI cJ A (some (.int r2)) g2) D al cI cJ A 5 0 0 37 [(0, .ref (al (40))), (1, .int (x1)), (2, .int (x2)), (3, .int (x3))] [] g := by
  intro n
  induction n with
  | zero => intro x1 x2 x3 g h; cases h
  | succ n ih =>
    intro x1 x2 x3 g h
    rw [m_X10_bears_37] at h
    refine gx_iload_n X 3 rfl dX10_bears_37 ?_
    refine gx_aload_n X 0 rfl dX10_bears_38 ?_
    refine gx_getf X (40) lf_X10_21 (by decide) (cl_40 _ _) (v := .int ((rdI g 40 5))) rfl dX10_bears_39 ?_
    refine gx_icmp_ge X 94 dX10_bears_42 (by decide) (fun q1 => ?_) (fun q1 => ?_)
    · replace h := (if_pos q1).symm.trans h
      refine gx_iinc X [(2, .int ((x2 + (1 : Int32)))), (0, .ref (al (40))), (1, .int (x1)), (3, .int (x3))] 2 dX10_bears_94 rfl rfl (by decide) rfl ?_
      refine gx_goto X 17 dX10_bears_97 (by decide) ?_
      exact gx_sub [1, 2, 0] rfl (hK17 x1 (x2 + (1 : Int32)) g h)
    · replace h := (if_neg q1).symm.trans h
      refine gx_iload_n X 3 rfl dX10_bears_45 ?_
      refine gx_iconst X (v := (1 : Int32)) dX10_bears_46 (by decide) ?_
      refine gx_iadd X dX10_bears_47 ?_
      refine gx_istore X [(4, .int ((x3 + (1 : Int32)))), (0, .ref (al (40))), (1, .int (x1)), (2, .int (x2)), (3, .int (x3))] dX10_bears_48 (by decide) rfl ?_
      exact gx_sub [1, 2, 3, 4, 0] rfl (t_X10_bears_50 X hd (fun u0 u1 u2 g h => ih u0 u1 u2 g h) fuL x1 x2 x3 (x3 + (1 : Int32)) g h)
def m_X10_bears_17 : Nat → Int32 → Int32 → Mm → Option (Int32 × Mm)
  | 0, _, _, _ => none
  | n + 1, x1, x2, g => (if (shlI (1 : Int32) (rdI g 40 4)) ≤ x2 then some ((1 : Int32), g) else bdd (m_X10_bitsOf x2 g) (fun ra2 ga3 => (if ra2 = x1 then m_X10_bears_37 (m_X10_bears_17 n) fuL x1 x2 (0 : Int32) ga3 else m_X10_bears_17 n x1 (x2 + (1 : Int32)) ga3)))
set_option maxHeartbeats 2000000 in
theorem t_X10_bears_17 {r2 : Int32} {g2 : Mm} (X : gx_X p R s m args meth c D al cI cJ A RX10 cX10_bears 5 (some .int) d 0 0) (hd : 3 ≤ d) : ∀ (n : Nat) (x1 : Int32) (x2 : Int32) (g : Mm), m_X10_bears_17 n x1 x2 g = some (r2, g2) → gx_G p l e R s m args below meth c (gx_Q below args s D al cI cJ A (some (.int r2)) g2) D al cI cJ A 5 0 0 17 [(0, .ref (al (40))), (1, .int (x1)), (2, .int (x2))] [] g := by
  intro n
  induction n with
  | zero => intro x1 x2 g h; cases h
  | succ n ih =>
    intro x1 x2 g h
    rw [m_X10_bears_17] at h
    refine gx_iload_n X 2 rfl dX10_bears_17 ?_
    refine gx_iconst X (v := (1 : Int32)) dX10_bears_18 (by decide) ?_
    refine gx_aload_n X 0 rfl dX10_bears_19 ?_
    refine gx_getf X (40) lf_X10_89 (by decide) (cl_40 _ _) (v := .int ((rdI g 40 4))) rfl dX10_bears_20 ?_
    refine gx_ishl X dX10_bears_23 ?_
    refine gx_icmp_ge X 100 dX10_bears_24 (by decide) (fun q1 => ?_) (fun q1 => ?_)
    · replace h := (if_pos q1).symm.trans h
      refine gx_iconst X (v := (1 : Int32)) dX10_bears_100 (by decide) ?_
      obtain ⟨rfl, rfl⟩ := ret_eq h
      exact gx_iret X rfl dX10_bears_101
    · replace h := (if_neg q1).symm.trans h
      refine gx_iload_n X 2 rfl dX10_bears_27 ?_
      obtain ⟨ra2, ga3, ca4, h⟩ := bdd_eq h
      refine gx_callSi X (c_X10_bitsOf ca4) lc_X10_bitsOf li_X10_bitsOf lm_X10_229 rfl rfl (Nat.le_trans (by decide) hd) rfl (Nat.le_of_ble_eq_true rfl) dX10_bears_28 ?_
      refine gx_iload_n X 1 rfl dX10_bears_31 ?_
      refine gx_icmp_ne X 94 dX10_bears_32 (by decide) (fun q5 => ?_) (fun q5 => ?_)
      · replace h := (if_neg q5).symm.trans h
        refine gx_iinc X [(2, .int ((x2 + (1 : Int32)))), (0, .ref (al (40))), (1, .int (x1))] 2 dX10_bears_94 rfl rfl (by decide) rfl ?_
        refine gx_goto X 17 dX10_bears_97 (by decide) ?_
        exact gx_sub [1, 2, 0] rfl (ih x1 (x2 + (1 : Int32)) ga3 h)
      · replace h := (if_pos q5).symm.trans h
        refine gx_iconst X (v := (0 : Int32)) dX10_bears_35 (by decide) ?_
        refine gx_istore_n X [(3, .int ((0 : Int32))), (0, .ref (al (40))), (1, .int (x1)), (2, .int (x2))] dX10_bears_36 (by decide) rfl ?_
        exact gx_sub [1, 2, 3, 0] rfl (t_X10_bears_37 X hd (fun u0 u1 g h => ih u0 u1 g h) fuL x1 x2 (0 : Int32) ga3 h)
def m_X10_bears (g : Mm) : Option (Int32 × Mm) := (if (rdI g 40 4) = (0 : Int32) then some ((-5 : Int32), g) else bdd (m_X10_heardNow  g) (fun ra2 ga3 => m_X10_bears_17 fuL ra2 (0 : Int32) ga3))
set_option maxHeartbeats 2000000 in
theorem c_X10_bears {r2 : Int32} {g g2 : Mm} (h : m_X10_bears g = some (r2, g2)) : gx_M 3 yX10_bears cX10_bears 5 (some .int) (fun al => [.ref (al (40))]) g (some (.int r2)) g2 := by
  have hd : 3 ≤ 3 := Nat.le_refl _
  refine gx_M.of (by decide +kernel) (fun _ => Nat.le_of_ble_eq_true rfl) ?_
  intro p l e R s m args below meth c D al cI cJ A X
  refine gx_eq (pc' := 0) (ls' := [(0, .ref (al (40)))]) (st' := []) (g' := g) ⟨rfl, rfl, rfl, rfl⟩ ?_
  unfold m_X10_bears at h
  refine gx_aload_n X 0 rfl dX10_bears_0 ?_
  refine gx_getf X (40) lf_X10_89 (by decide) (cl_40 _ _) (v := .int ((rdI g 40 4))) rfl dX10_bears_1 ?_
  refine gx_if_ne X 10 dX10_bears_4 (by decide) (fun q1 => ?_) (fun q1 => ?_)
  · replace h := (if_neg q1).symm.trans h
    refine gx_aload_n X 0 rfl dX10_bears_10 ?_
    obtain ⟨ra2, ga3, ca4, h⟩ := bdd_eq h
    refine gx_callVi X (40) (c_X10_heardNow ca4) lc_X10_heardNow li_X10_heardNow lm_X10_251 (by decide) (cl_40 _ _) rfl rfl rfl (Nat.le_trans (by decide) hd) rfl (Nat.le_of_ble_eq_true rfl) dX10_bears_11 ?_
    refine gx_istore_n X [(1, .int (ra2)), (0, .ref (al (40)))] dX10_bears_14 (by decide) rfl ?_
    refine gx_iconst X (v := (0 : Int32)) dX10_bears_15 (by decide) ?_
    refine gx_istore_n X [(2, .int ((0 : Int32))), (1, .int (ra2)), (0, .ref (al (40)))] dX10_bears_16 (by decide) rfl ?_
    exact gx_sub [2, 1, 0] rfl (t_X10_bears_17 X hd fuL ra2 (0 : Int32) ga3 h)
  · replace h := (if_pos q1).symm.trans h
    refine gx_bipush X (v := (-5 : Int32)) dX10_bears_7 (by decide) ?_
    obtain ⟨rfl, rfl⟩ := ret_eq h
    exact gx_iret X rfl dX10_bears_9
theorem dX10_differ_0 : decode cX10_differ 0 = .ok (.iconst 0, 1) := by decide +kernel
theorem dX10_differ_1 : decode cX10_differ 1 = .ok (.istore_n 3, 1) := by decide +kernel
theorem dX10_differ_2 : decode cX10_differ 2 = .ok (.iconst 0, 1) := by decide +kernel
theorem dX10_differ_3 : decode cX10_differ 3 = .ok (.istore 4, 2) := by decide +kernel
theorem dX10_differ_5 : decode cX10_differ 5 = .ok (.iload 4, 2) := by decide +kernel
theorem dX10_differ_7 : decode cX10_differ 7 = .ok (.aload_n 0, 1) := by decide +kernel
theorem dX10_differ_8 : decode cX10_differ 8 = .ok (.getfield 89, 3) := by decide +kernel
theorem dX10_differ_11 : decode cX10_differ 11 = .ok (.if_icmp .ge 47, 3) := by decide +kernel
theorem dX10_differ_14 : decode cX10_differ 14 = .ok (.iload_n 3, 1) := by decide +kernel
theorem dX10_differ_15 : decode cX10_differ 15 = .ok (.aload_n 0, 1) := by decide +kernel
theorem dX10_differ_16 : decode cX10_differ 16 = .ok (.getfield 28, 3) := by decide +kernel
theorem dX10_differ_19 : decode cX10_differ 19 = .ok (.bipush 6, 2) := by decide +kernel
theorem dX10_differ_21 : decode cX10_differ 21 = .ok (.iload_n 1, 1) := by decide +kernel
theorem dX10_differ_22 : decode cX10_differ 22 = .ok (.imul, 1) := by decide +kernel
theorem dX10_differ_23 : decode cX10_differ 23 = .ok (.iload 4, 2) := by decide +kernel
theorem dX10_differ_25 : decode cX10_differ 25 = .ok (.iadd, 1) := by decide +kernel
theorem dX10_differ_26 : decode cX10_differ 26 = .ok (.iaload, 1) := by decide +kernel
theorem dX10_differ_27 : decode cX10_differ 27 = .ok (.aload_n 0, 1) := by decide +kernel
theorem dX10_differ_28 : decode cX10_differ 28 = .ok (.getfield 28, 3) := by decide +kernel
theorem dX10_differ_31 : decode cX10_differ 31 = .ok (.bipush 6, 2) := by decide +kernel
theorem dX10_differ_33 : decode cX10_differ 33 = .ok (.iload_n 2, 1) := by decide +kernel
theorem dX10_differ_34 : decode cX10_differ 34 = .ok (.imul, 1) := by decide +kernel
theorem dX10_differ_35 : decode cX10_differ 35 = .ok (.iload 4, 2) := by decide +kernel
theorem dX10_differ_37 : decode cX10_differ 37 = .ok (.iadd, 1) := by decide +kernel
theorem dX10_differ_38 : decode cX10_differ 38 = .ok (.iaload, 1) := by decide +kernel
theorem dX10_differ_39 : decode cX10_differ 39 = .ok (.if_icmp .eq 7, 3) := by decide +kernel
theorem dX10_differ_42 : decode cX10_differ 42 = .ok (.iconst 1, 1) := by decide +kernel
theorem dX10_differ_43 : decode cX10_differ 43 = .ok (.goto 4, 3) := by decide +kernel
theorem dX10_differ_46 : decode cX10_differ 46 = .ok (.iconst 0, 1) := by decide +kernel
theorem dX10_differ_47 : decode cX10_differ 47 = .ok (.iload 4, 2) := by decide +kernel
theorem dX10_differ_49 : decode cX10_differ 49 = .ok (.ishl, 1) := by decide +kernel
theorem dX10_differ_50 : decode cX10_differ 50 = .ok (.ior, 1) := by decide +kernel
theorem dX10_differ_51 : decode cX10_differ 51 = .ok (.istore_n 3, 1) := by decide +kernel
theorem dX10_differ_52 : decode cX10_differ 52 = .ok (.iinc 4 1, 3) := by decide +kernel
theorem dX10_differ_55 : decode cX10_differ 55 = .ok (.goto (-50), 3) := by decide +kernel
theorem dX10_differ_58 : decode cX10_differ 58 = .ok (.iload_n 3, 1) := by decide +kernel
theorem dX10_differ_59 : decode cX10_differ 59 = .ok (.ireturn, 1) := by decide +kernel
def m_X10_differ_5 : Nat → Int32 → Int32 → Int32 → Int32 → Mm → Option (Int32 × Mm)
  | 0, _, _, _, _, _ => none
  | n + 1, x1, x2, x3, x4, g => (if (rdI g 40 4) ≤ x4 then some (x3, g) else gdd (ixo (((6 : Int32) * x1) + x4) 144) (gdd (ixo (((6 : Int32) * x2) + x4) 144) ((if (rdI g 44 (((6 : Int32) * x1) + x4).toNatClampNeg) = (rdI g 44 (((6 : Int32) * x2) + x4).toNatClampNeg) then m_X10_differ_5 n x1 x2 (x3 ||| (shlI (0 : Int32) x4)) (x4 + (1 : Int32)) g else m_X10_differ_5 n x1 x2 (x3 ||| (shlI (1 : Int32) x4)) (x4 + (1 : Int32)) g))))
set_option maxHeartbeats 2000000 in
theorem t_X10_differ_5 {r2 : Int32} {g2 : Mm} (X : gx_X p R s m args meth c D al cI cJ A RX10 cX10_differ 5 (some .int) d 0 0) (hd : 1 ≤ d) : ∀ (n : Nat) (x1 : Int32) (x2 : Int32) (x3 : Int32) (x4 : Int32) (g : Mm), m_X10_differ_5 n x1 x2 x3 x4 g = some (r2, g2) → gx_G p l e R s m args below meth c (gx_Q below args s D al cI cJ A (some (.int r2)) g2) D al cI cJ A 5 0 0 5 [(0, .ref (al (40))), (1, .int (x1)), (2, .int (x2)), (3, .int (x3)), (4, .int (x4))] [] g := by
  intro n
  induction n with
  | zero => intro x1 x2 x3 x4 g h; cases h
  | succ n ih =>
    intro x1 x2 x3 x4 g h
    rw [m_X10_differ_5] at h
    refine gx_iload X 4 rfl dX10_differ_5 ?_
    refine gx_aload_n X 0 rfl dX10_differ_7 ?_
    refine gx_getf X (40) lf_X10_89 (by decide) (cl_40 _ _) (v := .int ((rdI g 40 4))) rfl dX10_differ_8 ?_
    refine gx_icmp_ge X 58 dX10_differ_11 (by decide) (fun q1 => ?_) (fun q1 => ?_)
    · replace h := (if_pos q1).symm.trans h
      refine gx_iload_n X 3 rfl dX10_differ_58 ?_
      obtain ⟨rfl, rfl⟩ := ret_eq h
      exact gx_iret X rfl dX10_differ_59
    · replace h := (if_neg q1).symm.trans h
      refine gx_iload_n X 3 rfl dX10_differ_14 ?_
      refine gx_aload_n X 0 rfl dX10_differ_15 ?_
      refine gx_getf X (40) lf_X10_28 (by decide) (cl_40 _ _) (v := .ref (al (44))) rfl dX10_differ_16 ?_
      refine gx_bipush X (v := (6 : Int32)) dX10_differ_19 (by decide) ?_
      refine gx_iload_n X 1 rfl dX10_differ_21 ?_
      refine gx_imul X dX10_differ_22 ?_
      refine gx_iload X 4 rfl dX10_differ_23 ?_
      refine gx_iadd X dX10_differ_25 ?_
      obtain ⟨q2, h⟩ := gdd_eq h
      refine gx_iald X (44) 144 (by decide) (cl_44 _ _) q2 dX10_differ_26 ?_
      refine gx_aload_n X 0 rfl dX10_differ_27 ?_
      refine gx_getf X (40) lf_X10_28 (by decide) (cl_40 _ _) (v := .ref (al (44))) rfl dX10_differ_28 ?_
      refine gx_bipush X (v := (6 : Int32)) dX10_differ_31 (by decide) ?_
      refine gx_iload_n X 2 rfl dX10_differ_33 ?_
      refine gx_imul X dX10_differ_34 ?_
      refine gx_iload X 4 rfl dX10_differ_35 ?_
      refine gx_iadd X dX10_differ_37 ?_
      obtain ⟨q3, h⟩ := gdd_eq h
      refine gx_iald X (44) 144 (by decide) (cl_44 _ _) q3 dX10_differ_38 ?_
      refine gx_icmp_eq X 46 dX10_differ_39 (by decide) (fun q4 => ?_) (fun q4 => ?_)
      · replace h := (if_pos q4).symm.trans h
        refine gx_iconst X (v := (0 : Int32)) dX10_differ_46 (by decide) ?_
        refine gx_iload X 4 rfl dX10_differ_47 ?_
        refine gx_ishl X dX10_differ_49 ?_
        refine gx_ior X dX10_differ_50 ?_
        refine gx_istore_n X [(3, .int ((x3 ||| (shlI (0 : Int32) x4)))), (0, .ref (al (40))), (1, .int (x1)), (2, .int (x2)), (4, .int (x4))] dX10_differ_51 (by decide) rfl ?_
        refine gx_iinc X [(4, .int ((x4 + (1 : Int32)))), (3, .int ((x3 ||| (shlI (0 : Int32) x4)))), (0, .ref (al (40))), (1, .int (x1)), (2, .int (x2))] 4 dX10_differ_52 rfl rfl (by decide) rfl ?_
        refine gx_goto X 5 dX10_differ_55 (by decide) ?_
        exact gx_sub [2, 3, 4, 1, 0] rfl (ih x1 x2 (x3 ||| (shlI (0 : Int32) x4)) (x4 + (1 : Int32)) g h)
      · replace h := (if_neg q4).symm.trans h
        refine gx_iconst X (v := (1 : Int32)) dX10_differ_42 (by decide) ?_
        refine gx_goto X 47 dX10_differ_43 (by decide) ?_
        refine gx_iload X 4 rfl dX10_differ_47 ?_
        refine gx_ishl X dX10_differ_49 ?_
        refine gx_ior X dX10_differ_50 ?_
        refine gx_istore_n X [(3, .int ((x3 ||| (shlI (1 : Int32) x4)))), (0, .ref (al (40))), (1, .int (x1)), (2, .int (x2)), (4, .int (x4))] dX10_differ_51 (by decide) rfl ?_
        refine gx_iinc X [(4, .int ((x4 + (1 : Int32)))), (3, .int ((x3 ||| (shlI (1 : Int32) x4)))), (0, .ref (al (40))), (1, .int (x1)), (2, .int (x2))] 4 dX10_differ_52 rfl rfl (by decide) rfl ?_
        refine gx_goto X 5 dX10_differ_55 (by decide) ?_
        exact gx_sub [2, 3, 4, 1, 0] rfl (ih x1 x2 (x3 ||| (shlI (1 : Int32) x4)) (x4 + (1 : Int32)) g h)
def m_X10_differ (a1 : Int32) (a2 : Int32) (g : Mm) : Option (Int32 × Mm) := m_X10_differ_5 fuL a1 a2 (0 : Int32) (0 : Int32) g
set_option maxHeartbeats 2000000 in
theorem c_X10_differ {r2 : Int32} {g g2 : Mm} {a1 : Int32} {a2 : Int32} (h : m_X10_differ a1 a2 g = some (r2, g2)) : gx_M 1 yX10_differ cX10_differ 5 (some .int) (fun al => [.ref (al (40)), .int (a1), .int (a2)]) g (some (.int r2)) g2 := by
  have hd : 1 ≤ 1 := Nat.le_refl _
  refine gx_M.of (by decide +kernel) (fun _ => Nat.le_of_ble_eq_true rfl) ?_
  intro p l e R s m args below meth c D al cI cJ A X
  refine gx_eq (pc' := 0) (ls' := [(0, .ref (al (40))), (1, .int (a1)), (2, .int (a2))]) (st' := []) (g' := g) ⟨rfl, rfl, rfl, rfl⟩ ?_
  unfold m_X10_differ at h
  refine gx_iconst X (v := (0 : Int32)) dX10_differ_0 (by decide) ?_
  refine gx_istore_n X [(3, .int ((0 : Int32))), (0, .ref (al (40))), (1, .int (a1)), (2, .int (a2))] dX10_differ_1 (by decide) rfl ?_
  refine gx_iconst X (v := (0 : Int32)) dX10_differ_2 (by decide) ?_
  refine gx_istore X [(4, .int ((0 : Int32))), (3, .int ((0 : Int32))), (0, .ref (al (40))), (1, .int (a1)), (2, .int (a2))] dX10_differ_3 (by decide) rfl ?_
  exact gx_sub [2, 3, 4, 1, 0] rfl (t_X10_differ_5 X hd fuL a1 a2 (0 : Int32) (0 : Int32) g h)
theorem dX10_isSure_0 : decode cX10_isSure 0 = .ok (.iconst 0, 1) := by decide +kernel
theorem dX10_isSure_1 : decode cX10_isSure 1 = .ok (.istore_n 3, 1) := by decide +kernel
theorem dX10_isSure_2 : decode cX10_isSure 2 = .ok (.iload_n 3, 1) := by decide +kernel
theorem dX10_isSure_3 : decode cX10_isSure 3 = .ok (.aload_n 0, 1) := by decide +kernel
theorem dX10_isSure_4 : decode cX10_isSure 4 = .ok (.getfield 21, 3) := by decide +kernel
theorem dX10_isSure_7 : decode cX10_isSure 7 = .ok (.if_icmp .ge 131, 3) := by decide +kernel
theorem dX10_isSure_10 : decode cX10_isSure 10 = .ok (.iload_n 3, 1) := by decide +kernel
theorem dX10_isSure_11 : decode cX10_isSure 11 = .ok (.iconst 1, 1) := by decide +kernel
theorem dX10_isSure_12 : decode cX10_isSure 12 = .ok (.iadd, 1) := by decide +kernel
theorem dX10_isSure_13 : decode cX10_isSure 13 = .ok (.istore 4, 2) := by decide +kernel
theorem dX10_isSure_15 : decode cX10_isSure 15 = .ok (.iload 4, 2) := by decide +kernel
theorem dX10_isSure_17 : decode cX10_isSure 17 = .ok (.aload_n 0, 1) := by decide +kernel
theorem dX10_isSure_18 : decode cX10_isSure 18 = .ok (.getfield 21, 3) := by decide +kernel
theorem dX10_isSure_21 : decode cX10_isSure 21 = .ok (.if_icmp .ge 111, 3) := by decide +kernel
theorem dX10_isSure_24 : decode cX10_isSure 24 = .ok (.iload_n 1, 1) := by decide +kernel
theorem dX10_isSure_25 : decode cX10_isSure 25 = .ok (.iload_n 3, 1) := by decide +kernel
theorem dX10_isSure_26 : decode cX10_isSure 26 = .ok (.ishr, 1) := by decide +kernel
theorem dX10_isSure_27 : decode cX10_isSure 27 = .ok (.iconst 1, 1) := by decide +kernel
theorem dX10_isSure_28 : decode cX10_isSure 28 = .ok (.iand, 1) := by decide +kernel
theorem dX10_isSure_29 : decode cX10_isSure 29 = .ok (.iconst 1, 1) := by decide +kernel
theorem dX10_isSure_30 : decode cX10_isSure 30 = .ok (.if_icmp .ne 96, 3) := by decide +kernel
theorem dX10_isSure_33 : decode cX10_isSure 33 = .ok (.iload_n 1, 1) := by decide +kernel
theorem dX10_isSure_34 : decode cX10_isSure 34 = .ok (.iload 4, 2) := by decide +kernel
theorem dX10_isSure_36 : decode cX10_isSure 36 = .ok (.ishr, 1) := by decide +kernel
theorem dX10_isSure_37 : decode cX10_isSure 37 = .ok (.iconst 1, 1) := by decide +kernel
theorem dX10_isSure_38 : decode cX10_isSure 38 = .ok (.iand, 1) := by decide +kernel
theorem dX10_isSure_39 : decode cX10_isSure 39 = .ok (.iconst 1, 1) := by decide +kernel
theorem dX10_isSure_40 : decode cX10_isSure 40 = .ok (.if_icmp .ne 86, 3) := by decide +kernel
theorem dX10_isSure_43 : decode cX10_isSure 43 = .ok (.aload_n 0, 1) := by decide +kernel
theorem dX10_isSure_44 : decode cX10_isSure 44 = .ok (.iload_n 3, 1) := by decide +kernel
theorem dX10_isSure_45 : decode cX10_isSure 45 = .ok (.iload 4, 2) := by decide +kernel
theorem dX10_isSure_47 : decode cX10_isSure 47 = .ok (.invokevirtual 232, 3) := by decide +kernel
theorem dX10_isSure_50 : decode cX10_isSure 50 = .ok (.ifCond .ne 76, 3) := by decide +kernel
theorem dX10_isSure_53 : decode cX10_isSure 53 = .ok (.iconst 0, 1) := by decide +kernel
theorem dX10_isSure_54 : decode cX10_isSure 54 = .ok (.istore 5, 2) := by decide +kernel
theorem dX10_isSure_56 : decode cX10_isSure 56 = .ok (.iconst 0, 1) := by decide +kernel
theorem dX10_isSure_57 : decode cX10_isSure 57 = .ok (.istore 6, 2) := by decide +kernel
theorem dX10_isSure_59 : decode cX10_isSure 59 = .ok (.iload 6, 2) := by decide +kernel
theorem dX10_isSure_61 : decode cX10_isSure 61 = .ok (.iload_n 2, 1) := by decide +kernel
theorem dX10_isSure_62 : decode cX10_isSure 62 = .ok (.if_icmp .ge 57, 3) := by decide +kernel
theorem dX10_isSure_65 : decode cX10_isSure 65 = .ok (.iload 5, 2) := by decide +kernel
theorem dX10_isSure_67 : decode cX10_isSure 67 = .ok (.ifCond .ne 39, 3) := by decide +kernel
theorem dX10_isSure_70 : decode cX10_isSure 70 = .ok (.aload_n 0, 1) := by decide +kernel
theorem dX10_isSure_71 : decode cX10_isSure 71 = .ok (.iload_n 3, 1) := by decide +kernel
theorem dX10_isSure_72 : decode cX10_isSure 72 = .ok (.aload_n 0, 1) := by decide +kernel
theorem dX10_isSure_73 : decode cX10_isSure 73 = .ok (.getfield 323, 3) := by decide +kernel
theorem dX10_isSure_76 : decode cX10_isSure 76 = .ok (.iadd, 1) := by decide +kernel
theorem dX10_isSure_77 : decode cX10_isSure 77 = .ok (.iload 6, 2) := by decide +kernel
theorem dX10_isSure_79 : decode cX10_isSure 79 = .ok (.iadd, 1) := by decide +kernel
theorem dX10_isSure_80 : decode cX10_isSure 80 = .ok (.aload_n 0, 1) := by decide +kernel
theorem dX10_isSure_81 : decode cX10_isSure 81 = .ok (.getfield 21, 3) := by decide +kernel
theorem dX10_isSure_84 : decode cX10_isSure 84 = .ok (.irem, 1) := by decide +kernel
theorem dX10_isSure_85 : decode cX10_isSure 85 = .ok (.iload 4, 2) := by decide +kernel
theorem dX10_isSure_87 : decode cX10_isSure 87 = .ok (.aload_n 0, 1) := by decide +kernel
theorem dX10_isSure_88 : decode cX10_isSure 88 = .ok (.getfield 323, 3) := by decide +kernel
theorem dX10_isSure_91 : decode cX10_isSure 91 = .ok (.iadd, 1) := by decide +kernel
theorem dX10_isSure_92 : decode cX10_isSure 92 = .ok (.iload 6, 2) := by decide +kernel
theorem dX10_isSure_94 : decode cX10_isSure 94 = .ok (.iadd, 1) := by decide +kernel
theorem dX10_isSure_95 : decode cX10_isSure 95 = .ok (.aload_n 0, 1) := by decide +kernel
theorem dX10_isSure_96 : decode cX10_isSure 96 = .ok (.getfield 21, 3) := by decide +kernel
theorem dX10_isSure_99 : decode cX10_isSure 99 = .ok (.irem, 1) := by decide +kernel
theorem dX10_isSure_100 : decode cX10_isSure 100 = .ok (.invokevirtual 236, 3) := by decide +kernel
theorem dX10_isSure_103 : decode cX10_isSure 103 = .ok (.ifCond .eq 7, 3) := by decide +kernel
theorem dX10_isSure_106 : decode cX10_isSure 106 = .ok (.iconst 1, 1) := by decide +kernel
theorem dX10_isSure_107 : decode cX10_isSure 107 = .ok (.goto 4, 3) := by decide +kernel
theorem dX10_isSure_110 : decode cX10_isSure 110 = .ok (.iconst 0, 1) := by decide +kernel
theorem dX10_isSure_111 : decode cX10_isSure 111 = .ok (.istore 5, 2) := by decide +kernel
theorem dX10_isSure_113 : decode cX10_isSure 113 = .ok (.iinc 6 1, 3) := by decide +kernel
theorem dX10_isSure_116 : decode cX10_isSure 116 = .ok (.goto (-57), 3) := by decide +kernel
theorem dX10_isSure_119 : decode cX10_isSure 119 = .ok (.iload 5, 2) := by decide +kernel
theorem dX10_isSure_121 : decode cX10_isSure 121 = .ok (.ifCond .ne 5, 3) := by decide +kernel
theorem dX10_isSure_124 : decode cX10_isSure 124 = .ok (.iconst 0, 1) := by decide +kernel
theorem dX10_isSure_125 : decode cX10_isSure 125 = .ok (.ireturn, 1) := by decide +kernel
theorem dX10_isSure_126 : decode cX10_isSure 126 = .ok (.iinc 4 1, 3) := by decide +kernel
theorem dX10_isSure_129 : decode cX10_isSure 129 = .ok (.goto (-114), 3) := by decide +kernel
theorem dX10_isSure_132 : decode cX10_isSure 132 = .ok (.iinc 3 1, 3) := by decide +kernel
theorem dX10_isSure_135 : decode cX10_isSure 135 = .ok (.goto (-133), 3) := by decide +kernel
theorem dX10_isSure_138 : decode cX10_isSure 138 = .ok (.iconst 1, 1) := by decide +kernel
theorem dX10_isSure_139 : decode cX10_isSure 139 = .ok (.ireturn, 1) := by decide +kernel
def m_X10_isSure_59 (K15 : Int32 → Int32 → Int32 → Int32 → Mm → Option (Int32 × Mm)) : Nat → Int32 → Int32 → Int32 → Int32 → Int32 → Int32 → Mm → Option (Int32 × Mm)
  | 0, _, _, _, _, _, _, _ => none
  | n + 1, x1, x2, x3, x4, x5, x6, g => (if x2 ≤ x6 then (if x5 = (0 : Int32) then some ((0 : Int32), g) else K15 x1 x2 x3 (x4 + (1 : Int32)) g) else (if x5 = (0 : Int32) then gdd (decide (¬ (rdI g 40 5) = 0)) (gdd (decide (¬ (rdI g 40 5) = 0)) (bdd (m_X10_differ (rmI ((x3 + (rdI g 40 38)) + x6) (rdI g 40 5)) (rmI ((x4 + (rdI g 40 38)) + x6) (rdI g 40 5)) g) (fun ra6 ga7 => (if ra6 = (0 : Int32) then m_X10_isSure_59 K15 n x1 x2 x3 x4 (0 : Int32) (x6 + (1 : Int32)) ga7 else m_X10_isSure_59 K15 n x1 x2 x3 x4 (1 : Int32) (x6 + (1 : Int32)) ga7)))) else m_X10_isSure_59 K15 n x1 x2 x3 x4 (1 : Int32) (x6 + (1 : Int32)) g))
set_option maxHeartbeats 2000000 in
theorem t_X10_isSure_59 {r2 : Int32} {g2 : Mm} (X : gx_X p R s m args meth c D al cI cJ A RX10 cX10_isSure 7 (some .boolean) d 0 0) (hd : 2 ≤ d) {K15 : Int32 → Int32 → Int32 → Int32 → Mm → Option (Int32 × Mm)} (hK15 : ∀ (u0 : Int32) (u1 : Int32) (u2 : Int32) (u3 : Int32) (g : Mm), K15 u0 u1 u2 u3 g = some (r2, g2) → gx_G p l e R s m args below meth c (gx_Q below args s D al cI cJ A (some (.int r2)) g2) D al cI cJ A 7 0 0 15 [(0, .ref (al (40))), (1, .int (u0)), (2, .int (u1)), (3, .int (u2)), (4, .int (u3))] [] g) : ∀ (n : Nat) (x1 : Int32) (x2 : Int32) (x3 : Int32) (x4 : Int32) (x5 : Int32) (x6 : Int32) (g : Mm), m_X10_isSure_59 K15 n x1 x2 x3 x4 x5 x6 g = some (r2, g2) → gx_G p l e R s m args below meth c (gx_Q below args s D al cI cJ A (some (.int r2)) g2) D al cI cJ A 7 0 0 59 [(0, .ref (al (40))), (1, .int (x1)), (2, .int (x2)), (3, .int (x3)), (4, .int (x4)), (5, .int (x5)), (6, .int (x6))] [] g := by
  intro n
  induction n with
  | zero => intro x1 x2 x3 x4 x5 x6 g h; cases h
  | succ n ih =>
    intro x1 x2 x3 x4 x5 x6 g h
    rw [m_X10_isSure_59] at h
    refine gx_iload X 6 rfl dX10_isSure_59 ?_
    refine gx_iload_n X 2 rfl dX10_isSure_61 ?_
    refine gx_icmp_ge X 119 dX10_isSure_62 (by decide) (fun q1 => ?_) (fun q1 => ?_)
    · replace h := (if_pos q1).symm.trans h
      refine gx_iload X 5 rfl dX10_isSure_119 ?_
      refine gx_if_ne X 126 dX10_isSure_121 (by decide) (fun q2 => ?_) (fun q2 => ?_)
      · replace h := (if_neg q2).symm.trans h
        refine gx_iinc X [(4, .int ((x4 + (1 : Int32)))), (0, .ref (al (40))), (1, .int (x1)), (2, .int (x2)), (3, .int (x3)), (5, .int (x5)), (6, .int (x6))] 4 dX10_isSure_126 rfl rfl (by decide) rfl ?_
        refine gx_goto X 15 dX10_isSure_129 (by decide) ?_
        exact gx_sub [1, 2, 3, 4, 0] rfl (hK15 x1 x2 x3 (x4 + (1 : Int32)) g h)
      · replace h := (if_pos q2).symm.trans h
        refine gx_iconst X (v := (0 : Int32)) dX10_isSure_124 (by decide) ?_
        obtain ⟨rfl, rfl⟩ := ret_eq h
        exact gx_iret X rfl dX10_isSure_125
    · replace h := (if_neg q1).symm.trans h
      refine gx_iload X 5 rfl dX10_isSure_65 ?_
      refine gx_if_ne X 106 dX10_isSure_67 (by decide) (fun q3 => ?_) (fun q3 => ?_)
      · replace h := (if_neg q3).symm.trans h
        refine gx_iconst X (v := (1 : Int32)) dX10_isSure_106 (by decide) ?_
        refine gx_goto X 111 dX10_isSure_107 (by decide) ?_
        refine gx_istore X [(5, .int ((1 : Int32))), (0, .ref (al (40))), (1, .int (x1)), (2, .int (x2)), (3, .int (x3)), (4, .int (x4)), (6, .int (x6))] dX10_isSure_111 (by decide) rfl ?_
        refine gx_iinc X [(6, .int ((x6 + (1 : Int32)))), (5, .int ((1 : Int32))), (0, .ref (al (40))), (1, .int (x1)), (2, .int (x2)), (3, .int (x3)), (4, .int (x4))] 6 dX10_isSure_113 rfl rfl (by decide) rfl ?_
        refine gx_goto X 59 dX10_isSure_116 (by decide) ?_
        exact gx_sub [2, 3, 4, 5, 6, 1, 0] rfl (ih x1 x2 x3 x4 (1 : Int32) (x6 + (1 : Int32)) g h)
      · replace h := (if_pos q3).symm.trans h
        refine gx_aload_n X 0 rfl dX10_isSure_70 ?_
        refine gx_iload_n X 3 rfl dX10_isSure_71 ?_
        refine gx_aload_n X 0 rfl dX10_isSure_72 ?_
        refine gx_getf X (40) lf_X10_323 (by decide) (cl_40 _ _) (v := .int ((rdI g 40 38))) rfl dX10_isSure_73 ?_
        refine gx_iadd X dX10_isSure_76 ?_
        refine gx_iload X 6 rfl dX10_isSure_77 ?_
        refine gx_iadd X dX10_isSure_79 ?_
        refine gx_aload_n X 0 rfl dX10_isSure_80 ?_
        refine gx_getf X (40) lf_X10_21 (by decide) (cl_40 _ _) (v := .int ((rdI g 40 5))) rfl dX10_isSure_81 ?_
        obtain ⟨q4, h⟩ := gdd_eq h
        refine gx_irem X dX10_isSure_84 (of_decide_eq_true q4) ?_
        refine gx_iload X 4 rfl dX10_isSure_85 ?_
        refine gx_aload_n X 0 rfl dX10_isSure_87 ?_
        refine gx_getf X (40) lf_X10_323 (by decide) (cl_40 _ _) (v := .int ((rdI g 40 38))) rfl dX10_isSure_88 ?_
        refine gx_iadd X dX10_isSure_91 ?_
        refine gx_iload X 6 rfl dX10_isSure_92 ?_
        refine gx_iadd X dX10_isSure_94 ?_
        refine gx_aload_n X 0 rfl dX10_isSure_95 ?_
        refine gx_getf X (40) lf_X10_21 (by decide) (cl_40 _ _) (v := .int ((rdI g 40 5))) rfl dX10_isSure_96 ?_
        obtain ⟨q5, h⟩ := gdd_eq h
        refine gx_irem X dX10_isSure_99 (of_decide_eq_true q5) ?_
        obtain ⟨ra6, ga7, ca8, h⟩ := bdd_eq h
        refine gx_callVi X (40) (c_X10_differ ca8) lc_X10_differ li_X10_differ lm_X10_236 (by decide) (cl_40 _ _) rfl rfl rfl (Nat.le_trans (by decide) hd) rfl (Nat.le_of_ble_eq_true rfl) dX10_isSure_100 ?_
        refine gx_if_eq X 110 dX10_isSure_103 (by decide) (fun q9 => ?_) (fun q9 => ?_)
        · replace h := (if_pos q9).symm.trans h
          refine gx_iconst X (v := (0 : Int32)) dX10_isSure_110 (by decide) ?_
          refine gx_istore X [(5, .int ((0 : Int32))), (0, .ref (al (40))), (1, .int (x1)), (2, .int (x2)), (3, .int (x3)), (4, .int (x4)), (6, .int (x6))] dX10_isSure_111 (by decide) rfl ?_
          refine gx_iinc X [(6, .int ((x6 + (1 : Int32)))), (5, .int ((0 : Int32))), (0, .ref (al (40))), (1, .int (x1)), (2, .int (x2)), (3, .int (x3)), (4, .int (x4))] 6 dX10_isSure_113 rfl rfl (by decide) rfl ?_
          refine gx_goto X 59 dX10_isSure_116 (by decide) ?_
          exact gx_sub [2, 3, 4, 5, 6, 1, 0] rfl (ih x1 x2 x3 x4 (0 : Int32) (x6 + (1 : Int32)) ga7 h)
        · replace h := (if_neg q9).symm.trans h
          refine gx_iconst X (v := (1 : Int32)) dX10_isSure_106 (by decide) ?_
          refine gx_goto X 111 dX10_isSure_107 (by decide) ?_
          refine gx_istore X [(5, .int ((1 : Int32))), (0, .ref (al (40))), (1, .int (x1)), (2, .int (x2)), (3, .int (x3)), (4, .int (x4)), (6, .int (x6))] dX10_isSure_111 (by decide) rfl ?_
          refine gx_iinc X [(6, .int ((x6 + (1 : Int32)))), (5, .int ((1 : Int32))), (0, .ref (al (40))), (1, .int (x1)), (2, .int (x2)), (3, .int (x3)), (4, .int (x4))] 6 dX10_isSure_113 rfl rfl (by decide) rfl ?_
          refine gx_goto X 59 dX10_isSure_116 (by decide) ?_
          exact gx_sub [2, 3, 4, 5, 6, 1, 0] rfl (ih x1 x2 x3 x4 (1 : Int32) (x6 + (1 : Int32)) ga7 h)
def m_X10_isSure_15 (K2 : Int32 → Int32 → Int32 → Mm → Option (Int32 × Mm)) : Nat → Int32 → Int32 → Int32 → Int32 → Mm → Option (Int32 × Mm)
  | 0, _, _, _, _, _ => none
  | n + 1, x1, x2, x3, x4, g => (if (rdI g 40 5) ≤ x4 then K2 x1 x2 (x3 + (1 : Int32)) g else (if ((shrI x1 x3) &&& (1 : Int32)) = (1 : Int32) then (if ((shrI x1 x4) &&& (1 : Int32)) = (1 : Int32) then bdd (m_X10_areMixed x3 x4 g) (fun ra4 ga5 => (if ra4 = (0 : Int32) then m_X10_isSure_59 (m_X10_isSure_15 K2 n) fuL x1 x2 x3 x4 (0 : Int32) (0 : Int32) ga5 else m_X10_isSure_15 K2 n x1 x2 x3 (x4 + (1 : Int32)) ga5)) else m_X10_isSure_15 K2 n x1 x2 x3 (x4 + (1 : Int32)) g) else m_X10_isSure_15 K2 n x1 x2 x3 (x4 + (1 : Int32)) g))
set_option maxHeartbeats 2000000 in
theorem t_X10_isSure_15 {r2 : Int32} {g2 : Mm} (X : gx_X p R s m args meth c D al cI cJ A RX10 cX10_isSure 7 (some .boolean) d 0 0) (hd : 2 ≤ d) {K2 : Int32 → Int32 → Int32 → Mm → Option (Int32 × Mm)} (hK2 : ∀ (u0 : Int32) (u1 : Int32) (u2 : Int32) (g : Mm), K2 u0 u1 u2 g = some (r2, g2) → gx_G p l e R s m args below meth c (gx_Q below args s D al cI cJ A (some (.int r2)) g2) D al cI cJ A 7 0 0 2 [(0, .ref (al (40))), (1, .int (u0)), (2, .int (u1)), (3, .int (u2))] [] g) : ∀ (n : Nat) (x1 : Int32) (x2 : Int32) (x3 : Int32) (x4 : Int32) (g : Mm), m_X10_isSure_15 K2 n x1 x2 x3 x4 g = some (r2, g2) → gx_G p l e R s m args below meth c (gx_Q below args s D al cI cJ A (some (.int r2)) g2) D al cI cJ A 7 0 0 15 [(0, .ref (al (40))), (1, .int (x1)), (2, .int (x2)), (3, .int (x3)), (4, .int (x4))] [] g := by
  intro n
  induction n with
  | zero => intro x1 x2 x3 x4 g h; cases h
  | succ n ih =>
    intro x1 x2 x3 x4 g h
    rw [m_X10_isSure_15] at h
    refine gx_iload X 4 rfl dX10_isSure_15 ?_
    refine gx_aload_n X 0 rfl dX10_isSure_17 ?_
    refine gx_getf X (40) lf_X10_21 (by decide) (cl_40 _ _) (v := .int ((rdI g 40 5))) rfl dX10_isSure_18 ?_
    refine gx_icmp_ge X 132 dX10_isSure_21 (by decide) (fun q1 => ?_) (fun q1 => ?_)
    · replace h := (if_pos q1).symm.trans h
      refine gx_iinc X [(3, .int ((x3 + (1 : Int32)))), (0, .ref (al (40))), (1, .int (x1)), (2, .int (x2)), (4, .int (x4))] 3 dX10_isSure_132 rfl rfl (by decide) rfl ?_
      refine gx_goto X 2 dX10_isSure_135 (by decide) ?_
      exact gx_sub [1, 2, 3, 0] rfl (hK2 x1 x2 (x3 + (1 : Int32)) g h)
    · replace h := (if_neg q1).symm.trans h
      refine gx_iload_n X 1 rfl dX10_isSure_24 ?_
      refine gx_iload_n X 3 rfl dX10_isSure_25 ?_
      refine gx_ishr X dX10_isSure_26 ?_
      refine gx_iconst X (v := (1 : Int32)) dX10_isSure_27 (by decide) ?_
      refine gx_iand X dX10_isSure_28 ?_
      refine gx_iconst X (v := (1 : Int32)) dX10_isSure_29 (by decide) ?_
      refine gx_icmp_ne X 126 dX10_isSure_30 (by decide) (fun q2 => ?_) (fun q2 => ?_)
      · replace h := (if_neg q2).symm.trans h
        refine gx_iinc X [(4, .int ((x4 + (1 : Int32)))), (0, .ref (al (40))), (1, .int (x1)), (2, .int (x2)), (3, .int (x3))] 4 dX10_isSure_126 rfl rfl (by decide) rfl ?_
        refine gx_goto X 15 dX10_isSure_129 (by decide) ?_
        exact gx_sub [1, 2, 3, 4, 0] rfl (ih x1 x2 x3 (x4 + (1 : Int32)) g h)
      · replace h := (if_pos q2).symm.trans h
        refine gx_iload_n X 1 rfl dX10_isSure_33 ?_
        refine gx_iload X 4 rfl dX10_isSure_34 ?_
        refine gx_ishr X dX10_isSure_36 ?_
        refine gx_iconst X (v := (1 : Int32)) dX10_isSure_37 (by decide) ?_
        refine gx_iand X dX10_isSure_38 ?_
        refine gx_iconst X (v := (1 : Int32)) dX10_isSure_39 (by decide) ?_
        refine gx_icmp_ne X 126 dX10_isSure_40 (by decide) (fun q3 => ?_) (fun q3 => ?_)
        · replace h := (if_neg q3).symm.trans h
          refine gx_iinc X [(4, .int ((x4 + (1 : Int32)))), (0, .ref (al (40))), (1, .int (x1)), (2, .int (x2)), (3, .int (x3))] 4 dX10_isSure_126 rfl rfl (by decide) rfl ?_
          refine gx_goto X 15 dX10_isSure_129 (by decide) ?_
          exact gx_sub [1, 2, 3, 4, 0] rfl (ih x1 x2 x3 (x4 + (1 : Int32)) g h)
        · replace h := (if_pos q3).symm.trans h
          refine gx_aload_n X 0 rfl dX10_isSure_43 ?_
          refine gx_iload_n X 3 rfl dX10_isSure_44 ?_
          refine gx_iload X 4 rfl dX10_isSure_45 ?_
          obtain ⟨ra4, ga5, ca6, h⟩ := bdd_eq h
          refine gx_callVi X (40) (c_X10_areMixed ca6) lc_X10_areMixed li_X10_areMixed lm_X10_232 (by decide) (cl_40 _ _) rfl rfl rfl (Nat.le_trans (by decide) hd) rfl (Nat.le_of_ble_eq_true rfl) dX10_isSure_47 ?_
          refine gx_if_ne X 126 dX10_isSure_50 (by decide) (fun q7 => ?_) (fun q7 => ?_)
          · replace h := (if_neg q7).symm.trans h
            refine gx_iinc X [(4, .int ((x4 + (1 : Int32)))), (0, .ref (al (40))), (1, .int (x1)), (2, .int (x2)), (3, .int (x3))] 4 dX10_isSure_126 rfl rfl (by decide) rfl ?_
            refine gx_goto X 15 dX10_isSure_129 (by decide) ?_
            exact gx_sub [1, 2, 3, 4, 0] rfl (ih x1 x2 x3 (x4 + (1 : Int32)) ga5 h)
          · replace h := (if_pos q7).symm.trans h
            refine gx_iconst X (v := (0 : Int32)) dX10_isSure_53 (by decide) ?_
            refine gx_istore X [(5, .int ((0 : Int32))), (0, .ref (al (40))), (1, .int (x1)), (2, .int (x2)), (3, .int (x3)), (4, .int (x4))] dX10_isSure_54 (by decide) rfl ?_
            refine gx_iconst X (v := (0 : Int32)) dX10_isSure_56 (by decide) ?_
            refine gx_istore X [(6, .int ((0 : Int32))), (5, .int ((0 : Int32))), (0, .ref (al (40))), (1, .int (x1)), (2, .int (x2)), (3, .int (x3)), (4, .int (x4))] dX10_isSure_57 (by decide) rfl ?_
            exact gx_sub [2, 3, 4, 5, 6, 1, 0] rfl (t_X10_isSure_59 X hd (fun u0 u1 u2 u3 g h => ih u0 u1 u2 u3 g h) fuL x1 x2 x3 x4 (0 : Int32) (0 : Int32) ga5 h)
def m_X10_isSure_2 : Nat → Int32 → Int32 → Int32 → Mm → Option (Int32 × Mm)
  | 0, _, _, _, _ => none
  | n + 1, x1, x2, x3, g => (if (rdI g 40 5) ≤ x3 then some ((1 : Int32), g) else m_X10_isSure_15 (m_X10_isSure_2 n) fuL x1 x2 x3 (x3 + (1 : Int32)) g)
set_option maxHeartbeats 2000000 in
theorem t_X10_isSure_2 {r2 : Int32} {g2 : Mm} (X : gx_X p R s m args meth c D al cI cJ A RX10 cX10_isSure 7 (some .boolean) d 0 0) (hd : 2 ≤ d) : ∀ (n : Nat) (x1 : Int32) (x2 : Int32) (x3 : Int32) (g : Mm), m_X10_isSure_2 n x1 x2 x3 g = some (r2, g2) → gx_G p l e R s m args below meth c (gx_Q below args s D al cI cJ A (some (.int r2)) g2) D al cI cJ A 7 0 0 2 [(0, .ref (al (40))), (1, .int (x1)), (2, .int (x2)), (3, .int (x3))] [] g := by
  intro n
  induction n with
  | zero => intro x1 x2 x3 g h; cases h
  | succ n ih =>
    intro x1 x2 x3 g h
    rw [m_X10_isSure_2] at h
    refine gx_iload_n X 3 rfl dX10_isSure_2 ?_
    refine gx_aload_n X 0 rfl dX10_isSure_3 ?_
    refine gx_getf X (40) lf_X10_21 (by decide) (cl_40 _ _) (v := .int ((rdI g 40 5))) rfl dX10_isSure_4 ?_
    refine gx_icmp_ge X 138 dX10_isSure_7 (by decide) (fun q1 => ?_) (fun q1 => ?_)
    · replace h := (if_pos q1).symm.trans h
      refine gx_iconst X (v := (1 : Int32)) dX10_isSure_138 (by decide) ?_
      obtain ⟨rfl, rfl⟩ := ret_eq h
      exact gx_iret X rfl dX10_isSure_139
    · replace h := (if_neg q1).symm.trans h
      refine gx_iload_n X 3 rfl dX10_isSure_10 ?_
      refine gx_iconst X (v := (1 : Int32)) dX10_isSure_11 (by decide) ?_
      refine gx_iadd X dX10_isSure_12 ?_
      refine gx_istore X [(4, .int ((x3 + (1 : Int32)))), (0, .ref (al (40))), (1, .int (x1)), (2, .int (x2)), (3, .int (x3))] dX10_isSure_13 (by decide) rfl ?_
      exact gx_sub [1, 2, 3, 4, 0] rfl (t_X10_isSure_15 X hd (fun u0 u1 u2 g h => ih u0 u1 u2 g h) fuL x1 x2 x3 (x3 + (1 : Int32)) g h)
def m_X10_isSure (a1 : Int32) (a2 : Int32) (g : Mm) : Option (Int32 × Mm) := m_X10_isSure_2 fuL a1 a2 (0 : Int32) g
set_option maxHeartbeats 2000000 in
theorem c_X10_isSure {r2 : Int32} {g g2 : Mm} {a1 : Int32} {a2 : Int32} (h : m_X10_isSure a1 a2 g = some (r2, g2)) : gx_M 2 yX10_isSure cX10_isSure 7 (some .boolean) (fun al => [.ref (al (40)), .int (a1), .int (a2)]) g (some (.int r2)) g2 := by
  have hd : 2 ≤ 2 := Nat.le_refl _
  refine gx_M.of (by decide +kernel) (fun _ => Nat.le_of_ble_eq_true rfl) ?_
  intro p l e R s m args below meth c D al cI cJ A X
  refine gx_eq (pc' := 0) (ls' := [(0, .ref (al (40))), (1, .int (a1)), (2, .int (a2))]) (st' := []) (g' := g) ⟨rfl, rfl, rfl, rfl⟩ ?_
  unfold m_X10_isSure at h
  refine gx_iconst X (v := (0 : Int32)) dX10_isSure_0 (by decide) ?_
  refine gx_istore_n X [(3, .int ((0 : Int32))), (0, .ref (al (40))), (1, .int (a1)), (2, .int (a2))] dX10_isSure_1 (by decide) rfl ?_
  exact gx_sub [1, 2, 3, 0] rfl (t_X10_isSure_2 X hd fuL a1 a2 (0 : Int32) g h)
theorem dX10_mayBegin_0 : decode cX10_mayBegin 0 = .ok (.iconst 0, 1) := by decide +kernel
theorem dX10_mayBegin_1 : decode cX10_mayBegin 1 = .ok (.istore_n 2, 1) := by decide +kernel
theorem dX10_mayBegin_2 : decode cX10_mayBegin 2 = .ok (.iload_n 2, 1) := by decide +kernel
theorem dX10_mayBegin_3 : decode cX10_mayBegin 3 = .ok (.aload_n 0, 1) := by decide +kernel
theorem dX10_mayBegin_4 : decode cX10_mayBegin 4 = .ok (.getfield 323, 3) := by decide +kernel
theorem dX10_mayBegin_7 : decode cX10_mayBegin 7 = .ok (.if_icmp .ge 74, 3) := by decide +kernel
theorem dX10_mayBegin_10 : decode cX10_mayBegin 10 = .ok (.iload_n 1, 1) := by decide +kernel
theorem dX10_mayBegin_11 : decode cX10_mayBegin 11 = .ok (.iload_n 2, 1) := by decide +kernel
theorem dX10_mayBegin_12 : decode cX10_mayBegin 12 = .ok (.iadd, 1) := by decide +kernel
theorem dX10_mayBegin_13 : decode cX10_mayBegin 13 = .ok (.aload_n 0, 1) := by decide +kernel
theorem dX10_mayBegin_14 : decode cX10_mayBegin 14 = .ok (.getfield 21, 3) := by decide +kernel
theorem dX10_mayBegin_17 : decode cX10_mayBegin 17 = .ok (.irem, 1) := by decide +kernel
theorem dX10_mayBegin_18 : decode cX10_mayBegin 18 = .ok (.istore_n 3, 1) := by decide +kernel
theorem dX10_mayBegin_19 : decode cX10_mayBegin 19 = .ok (.iconst 0, 1) := by decide +kernel
theorem dX10_mayBegin_20 : decode cX10_mayBegin 20 = .ok (.istore 4, 2) := by decide +kernel
theorem dX10_mayBegin_22 : decode cX10_mayBegin 22 = .ok (.iload 4, 2) := by decide +kernel
theorem dX10_mayBegin_24 : decode cX10_mayBegin 24 = .ok (.aload_n 0, 1) := by decide +kernel
theorem dX10_mayBegin_25 : decode cX10_mayBegin 25 = .ok (.getfield 89, 3) := by decide +kernel
theorem dX10_mayBegin_28 : decode cX10_mayBegin 28 = .ok (.if_icmp .ge 47, 3) := by decide +kernel
theorem dX10_mayBegin_31 : decode cX10_mayBegin 31 = .ok (.aload_n 0, 1) := by decide +kernel
theorem dX10_mayBegin_32 : decode cX10_mayBegin 32 = .ok (.getfield 61, 3) := by decide +kernel
theorem dX10_mayBegin_35 : decode cX10_mayBegin 35 = .ok (.bipush 6, 2) := by decide +kernel
theorem dX10_mayBegin_37 : decode cX10_mayBegin 37 = .ok (.iload_n 2, 1) := by decide +kernel
theorem dX10_mayBegin_38 : decode cX10_mayBegin 38 = .ok (.imul, 1) := by decide +kernel
theorem dX10_mayBegin_39 : decode cX10_mayBegin 39 = .ok (.iload 4, 2) := by decide +kernel
theorem dX10_mayBegin_41 : decode cX10_mayBegin 41 = .ok (.iadd, 1) := by decide +kernel
theorem dX10_mayBegin_42 : decode cX10_mayBegin 42 = .ok (.iaload, 1) := by decide +kernel
theorem dX10_mayBegin_43 : decode cX10_mayBegin 43 = .ok (.istore 5, 2) := by decide +kernel
theorem dX10_mayBegin_45 : decode cX10_mayBegin 45 = .ok (.iload 5, 2) := by decide +kernel
theorem dX10_mayBegin_47 : decode cX10_mayBegin 47 = .ok (.ifCond .lt 22, 3) := by decide +kernel
theorem dX10_mayBegin_50 : decode cX10_mayBegin 50 = .ok (.iload 5, 2) := by decide +kernel
theorem dX10_mayBegin_52 : decode cX10_mayBegin 52 = .ok (.aload_n 0, 1) := by decide +kernel
theorem dX10_mayBegin_53 : decode cX10_mayBegin 53 = .ok (.getfield 28, 3) := by decide +kernel
theorem dX10_mayBegin_56 : decode cX10_mayBegin 56 = .ok (.bipush 6, 2) := by decide +kernel
theorem dX10_mayBegin_58 : decode cX10_mayBegin 58 = .ok (.iload_n 3, 1) := by decide +kernel
theorem dX10_mayBegin_59 : decode cX10_mayBegin 59 = .ok (.imul, 1) := by decide +kernel
theorem dX10_mayBegin_60 : decode cX10_mayBegin 60 = .ok (.iload 4, 2) := by decide +kernel
theorem dX10_mayBegin_62 : decode cX10_mayBegin 62 = .ok (.iadd, 1) := by decide +kernel
theorem dX10_mayBegin_63 : decode cX10_mayBegin 63 = .ok (.iaload, 1) := by decide +kernel
theorem dX10_mayBegin_64 : decode cX10_mayBegin 64 = .ok (.if_icmp .eq 5, 3) := by decide +kernel
theorem dX10_mayBegin_67 : decode cX10_mayBegin 67 = .ok (.iconst 0, 1) := by decide +kernel
theorem dX10_mayBegin_68 : decode cX10_mayBegin 68 = .ok (.ireturn, 1) := by decide +kernel
theorem dX10_mayBegin_69 : decode cX10_mayBegin 69 = .ok (.iinc 4 1, 3) := by decide +kernel
theorem dX10_mayBegin_72 : decode cX10_mayBegin 72 = .ok (.goto (-50), 3) := by decide +kernel
theorem dX10_mayBegin_75 : decode cX10_mayBegin 75 = .ok (.iinc 2 1, 3) := by decide +kernel
theorem dX10_mayBegin_78 : decode cX10_mayBegin 78 = .ok (.goto (-76), 3) := by decide +kernel
theorem dX10_mayBegin_81 : decode cX10_mayBegin 81 = .ok (.iconst 1, 1) := by decide +kernel
theorem dX10_mayBegin_82 : decode cX10_mayBegin 82 = .ok (.ireturn, 1) := by decide +kernel
def m_X10_mayBegin_22 (K2 : Int32 → Int32 → Mm → Option (Int32 × Mm)) : Nat → Int32 → Int32 → Int32 → Int32 → Mm → Option (Int32 × Mm)
  | 0, _, _, _, _, _ => none
  | n + 1, x1, x2, x3, x4, g => (if (rdI g 40 4) ≤ x4 then K2 x1 (x2 + (1 : Int32)) g else gdd (ixo (((6 : Int32) * x2) + x4) 72) (lti (rdI g 55 (((6 : Int32) * x2) + x4).toNatClampNeg) (fun v3 => (if v3 < (0 : Int32) then m_X10_mayBegin_22 K2 n x1 x2 x3 (x4 + (1 : Int32)) g else gdd (ixo (((6 : Int32) * x3) + x4) 144) ((if v3 = (rdI g 44 (((6 : Int32) * x3) + x4).toNatClampNeg) then m_X10_mayBegin_22 K2 n x1 x2 x3 (x4 + (1 : Int32)) g else some ((0 : Int32), g)))))))
set_option maxHeartbeats 2000000 in
theorem t_X10_mayBegin_22 {r2 : Int32} {g2 : Mm} (X : gx_X p R s m args meth c D al cI cJ A RX10 cX10_mayBegin 6 (some .boolean) d 0 0) (hd : 1 ≤ d) {K2 : Int32 → Int32 → Mm → Option (Int32 × Mm)} (hK2 : ∀ (u0 : Int32) (u1 : Int32) (g : Mm), K2 u0 u1 g = some (r2, g2) → gx_G p l e R s m args below meth c (gx_Q below args s D al cI cJ A (some (.int r2)) g2) D al cI cJ A 6 0 0 2 [(0, .ref (al (40))), (1, .int (u0)), (2, .int (u1))] [] g) : ∀ (n : Nat) (x1 : Int32) (x2 : Int32) (x3 : Int32) (x4 : Int32) (g : Mm), m_X10_mayBegin_22 K2 n x1 x2 x3 x4 g = some (r2, g2) → gx_G p l e R s m args below meth c (gx_Q below args s D al cI cJ A (some (.int r2)) g2) D al cI cJ A 6 0 0 22 [(0, .ref (al (40))), (1, .int (x1)), (2, .int (x2)), (3, .int (x3)), (4, .int (x4))] [] g := by
  intro n
  induction n with
  | zero => intro x1 x2 x3 x4 g h; cases h
  | succ n ih =>
    intro x1 x2 x3 x4 g h
    rw [m_X10_mayBegin_22] at h
    refine gx_iload X 4 rfl dX10_mayBegin_22 ?_
    refine gx_aload_n X 0 rfl dX10_mayBegin_24 ?_
    refine gx_getf X (40) lf_X10_89 (by decide) (cl_40 _ _) (v := .int ((rdI g 40 4))) rfl dX10_mayBegin_25 ?_
    refine gx_icmp_ge X 75 dX10_mayBegin_28 (by decide) (fun q1 => ?_) (fun q1 => ?_)
    · replace h := (if_pos q1).symm.trans h
      refine gx_iinc X [(2, .int ((x2 + (1 : Int32)))), (0, .ref (al (40))), (1, .int (x1)), (3, .int (x3)), (4, .int (x4))] 2 dX10_mayBegin_75 rfl rfl (by decide) rfl ?_
      refine gx_goto X 2 dX10_mayBegin_78 (by decide) ?_
      exact gx_sub [1, 2, 0] rfl (hK2 x1 (x2 + (1 : Int32)) g h)
    · replace h := (if_neg q1).symm.trans h
      refine gx_aload_n X 0 rfl dX10_mayBegin_31 ?_
      refine gx_getf X (40) lf_X10_61 (by decide) (cl_40 _ _) (v := .ref (al (55))) rfl dX10_mayBegin_32 ?_
      refine gx_bipush X (v := (6 : Int32)) dX10_mayBegin_35 (by decide) ?_
      refine gx_iload_n X 2 rfl dX10_mayBegin_37 ?_
      refine gx_imul X dX10_mayBegin_38 ?_
      refine gx_iload X 4 rfl dX10_mayBegin_39 ?_
      refine gx_iadd X dX10_mayBegin_41 ?_
      obtain ⟨q2, h⟩ := gdd_eq h
      refine gx_iald X (55) 72 (by decide) (cl_55 _ _) q2 dX10_mayBegin_42 ?_
      obtain ⟨v3, ev3, h⟩ := lti_eq h
      refine gx_topi ev3 ?_
      refine gx_istore X [(5, .int (v3)), (0, .ref (al (40))), (1, .int (x1)), (2, .int (x2)), (3, .int (x3)), (4, .int (x4))] dX10_mayBegin_43 (by decide) rfl ?_
      refine gx_iload X 0 rfl dX10_mayBegin_45 ?_
      refine gx_if_lt X 69 dX10_mayBegin_47 (by decide) (fun q4 => ?_) (fun q4 => ?_)
      · replace h := (if_pos q4).symm.trans h
        refine gx_iinc X [(4, .int ((x4 + (1 : Int32)))), (5, .int (v3)), (0, .ref (al (40))), (1, .int (x1)), (2, .int (x2)), (3, .int (x3))] 5 dX10_mayBegin_69 rfl rfl (by decide) rfl ?_
        refine gx_goto X 22 dX10_mayBegin_72 (by decide) ?_
        exact gx_sub [2, 3, 4, 5, 0] rfl (ih x1 x2 x3 (x4 + (1 : Int32)) g h)
      · replace h := (if_neg q4).symm.trans h
        refine gx_iload X 0 rfl dX10_mayBegin_50 ?_
        refine gx_aload_n X 1 rfl dX10_mayBegin_52 ?_
        refine gx_getf X (40) lf_X10_28 (by decide) (cl_40 _ _) (v := .ref (al (44))) rfl dX10_mayBegin_53 ?_
        refine gx_bipush X (v := (6 : Int32)) dX10_mayBegin_56 (by decide) ?_
        refine gx_iload_n X 4 rfl dX10_mayBegin_58 ?_
        refine gx_imul X dX10_mayBegin_59 ?_
        refine gx_iload X 5 rfl dX10_mayBegin_60 ?_
        refine gx_iadd X dX10_mayBegin_62 ?_
        obtain ⟨q5, h⟩ := gdd_eq h
        refine gx_iald X (44) 144 (by decide) (cl_44 _ _) q5 dX10_mayBegin_63 ?_
        refine gx_icmp_eq X 69 dX10_mayBegin_64 (by decide) (fun q6 => ?_) (fun q6 => ?_)
        · replace h := (if_pos q6).symm.trans h
          refine gx_iinc X [(4, .int ((x4 + (1 : Int32)))), (5, .int (v3)), (0, .ref (al (40))), (1, .int (x1)), (2, .int (x2)), (3, .int (x3))] 5 dX10_mayBegin_69 rfl rfl (by decide) rfl ?_
          refine gx_goto X 22 dX10_mayBegin_72 (by decide) ?_
          exact gx_sub [2, 3, 4, 5, 0] rfl (ih x1 x2 x3 (x4 + (1 : Int32)) g h)
        · replace h := (if_neg q6).symm.trans h
          refine gx_iconst X (v := (0 : Int32)) dX10_mayBegin_67 (by decide) ?_
          obtain ⟨rfl, rfl⟩ := ret_eq h
          exact gx_iret X rfl dX10_mayBegin_68
def m_X10_mayBegin_2 : Nat → Int32 → Int32 → Mm → Option (Int32 × Mm)
  | 0, _, _, _ => none
  | n + 1, x1, x2, g => (if (rdI g 40 38) ≤ x2 then some ((1 : Int32), g) else gdd (decide (¬ (rdI g 40 5) = 0)) (m_X10_mayBegin_22 (m_X10_mayBegin_2 n) fuL x1 x2 (rmI (x1 + x2) (rdI g 40 5)) (0 : Int32) g))
set_option maxHeartbeats 2000000 in
theorem t_X10_mayBegin_2 {r2 : Int32} {g2 : Mm} (X : gx_X p R s m args meth c D al cI cJ A RX10 cX10_mayBegin 6 (some .boolean) d 0 0) (hd : 1 ≤ d) : ∀ (n : Nat) (x1 : Int32) (x2 : Int32) (g : Mm), m_X10_mayBegin_2 n x1 x2 g = some (r2, g2) → gx_G p l e R s m args below meth c (gx_Q below args s D al cI cJ A (some (.int r2)) g2) D al cI cJ A 6 0 0 2 [(0, .ref (al (40))), (1, .int (x1)), (2, .int (x2))] [] g := by
  intro n
  induction n with
  | zero => intro x1 x2 g h; cases h
  | succ n ih =>
    intro x1 x2 g h
    rw [m_X10_mayBegin_2] at h
    refine gx_iload_n X 2 rfl dX10_mayBegin_2 ?_
    refine gx_aload_n X 0 rfl dX10_mayBegin_3 ?_
    refine gx_getf X (40) lf_X10_323 (by decide) (cl_40 _ _) (v := .int ((rdI g 40 38))) rfl dX10_mayBegin_4 ?_
    refine gx_icmp_ge X 81 dX10_mayBegin_7 (by decide) (fun q1 => ?_) (fun q1 => ?_)
    · replace h := (if_pos q1).symm.trans h
      refine gx_iconst X (v := (1 : Int32)) dX10_mayBegin_81 (by decide) ?_
      obtain ⟨rfl, rfl⟩ := ret_eq h
      exact gx_iret X rfl dX10_mayBegin_82
    · replace h := (if_neg q1).symm.trans h
      refine gx_iload_n X 1 rfl dX10_mayBegin_10 ?_
      refine gx_iload_n X 2 rfl dX10_mayBegin_11 ?_
      refine gx_iadd X dX10_mayBegin_12 ?_
      refine gx_aload_n X 0 rfl dX10_mayBegin_13 ?_
      refine gx_getf X (40) lf_X10_21 (by decide) (cl_40 _ _) (v := .int ((rdI g 40 5))) rfl dX10_mayBegin_14 ?_
      obtain ⟨q2, h⟩ := gdd_eq h
      refine gx_irem X dX10_mayBegin_17 (of_decide_eq_true q2) ?_
      refine gx_istore_n X [(3, .int ((rmI (x1 + x2) (rdI g 40 5)))), (0, .ref (al (40))), (1, .int (x1)), (2, .int (x2))] dX10_mayBegin_18 (by decide) rfl ?_
      refine gx_iconst X (v := (0 : Int32)) dX10_mayBegin_19 (by decide) ?_
      refine gx_istore X [(4, .int ((0 : Int32))), (3, .int ((rmI (x1 + x2) (rdI g 40 5)))), (0, .ref (al (40))), (1, .int (x1)), (2, .int (x2))] dX10_mayBegin_20 (by decide) rfl ?_
      exact gx_sub [2, 3, 4, 1, 0] rfl (t_X10_mayBegin_22 X hd (fun u0 u1 g h => ih u0 u1 g h) fuL x1 x2 (rmI (x1 + x2) (rdI g 40 5)) (0 : Int32) g h)
def m_X10_mayBegin (a1 : Int32) (g : Mm) : Option (Int32 × Mm) := m_X10_mayBegin_2 fuL a1 (0 : Int32) g
set_option maxHeartbeats 2000000 in
theorem c_X10_mayBegin {r2 : Int32} {g g2 : Mm} {a1 : Int32} (h : m_X10_mayBegin a1 g = some (r2, g2)) : gx_M 1 yX10_mayBegin cX10_mayBegin 6 (some .boolean) (fun al => [.ref (al (40)), .int (a1)]) g (some (.int r2)) g2 := by
  have hd : 1 ≤ 1 := Nat.le_refl _
  refine gx_M.of (by decide +kernel) (fun _ => Nat.le_of_ble_eq_true rfl) ?_
  intro p l e R s m args below meth c D al cI cJ A X
  refine gx_eq (pc' := 0) (ls' := [(0, .ref (al (40))), (1, .int (a1))]) (st' := []) (g' := g) ⟨rfl, rfl, rfl, rfl⟩ ?_
  unfold m_X10_mayBegin at h
  refine gx_iconst X (v := (0 : Int32)) dX10_mayBegin_0 (by decide) ?_
  refine gx_istore_n X [(2, .int ((0 : Int32))), (0, .ref (al (40))), (1, .int (a1))] dX10_mayBegin_1 (by decide) rfl ?_
  exact gx_sub [1, 2, 0] rfl (t_X10_mayBegin_2 X hd fuL a1 (0 : Int32) g h)
theorem dX10_begins_0 : decode cX10_begins 0 = .ok (.iload_n 1, 1) := by decide +kernel
theorem dX10_begins_1 : decode cX10_begins 1 = .ok (.i2l, 1) := by decide +kernel
theorem dX10_begins_2 : decode cX10_begins 2 = .ok (.lconst 0, 1) := by decide +kernel
theorem dX10_begins_3 : decode cX10_begins 3 = .ok (.lconst 1, 1) := by decide +kernel
theorem dX10_begins_4 : decode cX10_begins 4 = .ok (.invokestatic 92, 3) := by decide +kernel
theorem dX10_begins_7 : decode cX10_begins 7 = .ok (.ifCond .ne 5, 3) := by decide +kernel
theorem dX10_begins_10 : decode cX10_begins 10 = .ok (.iconst (-1), 1) := by decide +kernel
theorem dX10_begins_11 : decode cX10_begins 11 = .ok (.ireturn, 1) := by decide +kernel
theorem dX10_begins_12 : decode cX10_begins 12 = .ok (.iconst 0, 1) := by decide +kernel
theorem dX10_begins_13 : decode cX10_begins 13 = .ok (.istore_n 2, 1) := by decide +kernel
theorem dX10_begins_14 : decode cX10_begins 14 = .ok (.iconst 0, 1) := by decide +kernel
theorem dX10_begins_15 : decode cX10_begins 15 = .ok (.istore_n 3, 1) := by decide +kernel
theorem dX10_begins_16 : decode cX10_begins 16 = .ok (.iload_n 3, 1) := by decide +kernel
theorem dX10_begins_17 : decode cX10_begins 17 = .ok (.aload_n 0, 1) := by decide +kernel
theorem dX10_begins_18 : decode cX10_begins 18 = .ok (.getfield 21, 3) := by decide +kernel
theorem dX10_begins_21 : decode cX10_begins 21 = .ok (.if_icmp .ge 27, 3) := by decide +kernel
theorem dX10_begins_24 : decode cX10_begins 24 = .ok (.iload_n 2, 1) := by decide +kernel
theorem dX10_begins_25 : decode cX10_begins 25 = .ok (.aload_n 0, 1) := by decide +kernel
theorem dX10_begins_26 : decode cX10_begins 26 = .ok (.iload_n 3, 1) := by decide +kernel
theorem dX10_begins_27 : decode cX10_begins 27 = .ok (.invokevirtual 326, 3) := by decide +kernel
theorem dX10_begins_30 : decode cX10_begins 30 = .ok (.ifCond .eq 7, 3) := by decide +kernel
theorem dX10_begins_33 : decode cX10_begins 33 = .ok (.iconst 1, 1) := by decide +kernel
theorem dX10_begins_34 : decode cX10_begins 34 = .ok (.goto 4, 3) := by decide +kernel
theorem dX10_begins_37 : decode cX10_begins 37 = .ok (.iconst 0, 1) := by decide +kernel
theorem dX10_begins_38 : decode cX10_begins 38 = .ok (.iload_n 3, 1) := by decide +kernel
theorem dX10_begins_39 : decode cX10_begins 39 = .ok (.ishl, 1) := by decide +kernel
theorem dX10_begins_40 : decode cX10_begins 40 = .ok (.ior, 1) := by decide +kernel
theorem dX10_begins_41 : decode cX10_begins 41 = .ok (.istore_n 2, 1) := by decide +kernel
theorem dX10_begins_42 : decode cX10_begins 42 = .ok (.iinc 3 1, 3) := by decide +kernel
theorem dX10_begins_45 : decode cX10_begins 45 = .ok (.goto (-29), 3) := by decide +kernel
theorem dX10_begins_48 : decode cX10_begins 48 = .ok (.iload_n 1, 1) := by decide +kernel
theorem dX10_begins_49 : decode cX10_begins 49 = .ok (.ifCond .ne 5, 3) := by decide +kernel
theorem dX10_begins_52 : decode cX10_begins 52 = .ok (.iload_n 2, 1) := by decide +kernel
theorem dX10_begins_53 : decode cX10_begins 53 = .ok (.ireturn, 1) := by decide +kernel
theorem dX10_begins_54 : decode cX10_begins 54 = .ok (.iconst 0, 1) := by decide +kernel
theorem dX10_begins_55 : decode cX10_begins 55 = .ok (.istore_n 3, 1) := by decide +kernel
theorem dX10_begins_56 : decode cX10_begins 56 = .ok (.iload_n 3, 1) := by decide +kernel
theorem dX10_begins_57 : decode cX10_begins 57 = .ok (.bipush 24, 2) := by decide +kernel
theorem dX10_begins_59 : decode cX10_begins 59 = .ok (.if_icmp .gt 20, 3) := by decide +kernel
theorem dX10_begins_62 : decode cX10_begins 62 = .ok (.aload_n 0, 1) := by decide +kernel
theorem dX10_begins_63 : decode cX10_begins 63 = .ok (.iload_n 2, 1) := by decide +kernel
theorem dX10_begins_64 : decode cX10_begins 64 = .ok (.iload_n 3, 1) := by decide +kernel
theorem dX10_begins_65 : decode cX10_begins 65 = .ok (.invokevirtual 329, 3) := by decide +kernel
theorem dX10_begins_68 : decode cX10_begins 68 = .ok (.ifCond .eq 5, 3) := by decide +kernel
theorem dX10_begins_71 : decode cX10_begins 71 = .ok (.iload_n 3, 1) := by decide +kernel
theorem dX10_begins_72 : decode cX10_begins 72 = .ok (.ireturn, 1) := by decide +kernel
theorem dX10_begins_73 : decode cX10_begins 73 = .ok (.iinc 3 1, 3) := by decide +kernel
theorem dX10_begins_76 : decode cX10_begins 76 = .ok (.goto (-20), 3) := by decide +kernel
theorem dX10_begins_79 : decode cX10_begins 79 = .ok (.bipush (-2), 2) := by decide +kernel
theorem dX10_begins_81 : decode cX10_begins 81 = .ok (.ireturn, 1) := by decide +kernel
def m_X10_begins_56 : Nat → Int32 → Int32 → Mm → Option (Int32 × Mm)
  | 0, _, _, _ => none
  | n + 1, x2, x3, g => (if (24 : Int32) < x3 then some ((-2 : Int32), g) else bdd (m_X10_isSure x2 x3 g) (fun ra2 ga3 => (if ra2 = (0 : Int32) then m_X10_begins_56 n x2 (x3 + (1 : Int32)) ga3 else some (x3, ga3))))
set_option maxHeartbeats 2000000 in
theorem t_X10_begins_56 {r2 : Int32} {g2 : Mm} (X : gx_X p R s m args meth c D al cI cJ A RX10 cX10_begins 4 (some .int) d 0 0) (hd : 3 ≤ d) : ∀ (n : Nat) (x2 : Int32) (x3 : Int32) (g : Mm), m_X10_begins_56 n x2 x3 g = some (r2, g2) → gx_G p l e R s m args below meth c (gx_Q below args s D al cI cJ A (some (.int r2)) g2) D al cI cJ A 4 0 0 56 [(0, .ref (al (40))), (2, .int (x2)), (3, .int (x3))] [] g := by
  intro n
  induction n with
  | zero => intro x2 x3 g h; cases h
  | succ n ih =>
    intro x2 x3 g h
    rw [m_X10_begins_56] at h
    refine gx_iload_n X 2 rfl dX10_begins_56 ?_
    refine gx_bipush X (v := (24 : Int32)) dX10_begins_57 (by decide) ?_
    refine gx_icmp_gt X 79 dX10_begins_59 (by decide) (fun q1 => ?_) (fun q1 => ?_)
    · replace h := (if_pos q1).symm.trans h
      refine gx_bipush X (v := (-2 : Int32)) dX10_begins_79 (by decide) ?_
      obtain ⟨rfl, rfl⟩ := ret_eq h
      exact gx_iret X rfl dX10_begins_81
    · replace h := (if_neg q1).symm.trans h
      refine gx_aload_n X 0 rfl dX10_begins_62 ?_
      refine gx_iload_n X 1 rfl dX10_begins_63 ?_
      refine gx_iload_n X 2 rfl dX10_begins_64 ?_
      obtain ⟨ra2, ga3, ca4, h⟩ := bdd_eq h
      refine gx_callVi X (40) (c_X10_isSure ca4) lc_X10_isSure li_X10_isSure lm_X10_329 (by decide) (cl_40 _ _) rfl rfl rfl (Nat.le_trans (by decide) hd) rfl (Nat.le_of_ble_eq_true rfl) dX10_begins_65 ?_
      refine gx_if_eq X 73 dX10_begins_68 (by decide) (fun q5 => ?_) (fun q5 => ?_)
      · replace h := (if_pos q5).symm.trans h
        refine gx_iinc X [(3, .int ((x3 + (1 : Int32)))), (0, .ref (al (40))), (2, .int (x2))] 2 dX10_begins_73 rfl rfl (by decide) rfl ?_
        refine gx_goto X 56 dX10_begins_76 (by decide) ?_
        exact gx_sub [1, 2, 0] rfl (ih x2 (x3 + (1 : Int32)) ga3 h)
      · replace h := (if_neg q5).symm.trans h
        refine gx_iload_n X 2 rfl dX10_begins_71 ?_
        obtain ⟨rfl, rfl⟩ := ret_eq h
        exact gx_iret X rfl dX10_begins_72
def m_X10_begins_16 : Nat → Int32 → Int32 → Int32 → Mm → Option (Int32 × Mm)
  | 0, _, _, _, _ => none
  | n + 1, x1, x2, x3, g => (if (rdI g 40 5) ≤ x3 then (if x1 = (0 : Int32) then some (x2, g) else m_X10_begins_56 fuL x2 (0 : Int32) g) else bdd (m_X10_mayBegin x3 g) (fun ra3 ga4 => (if ra3 = (0 : Int32) then m_X10_begins_16 n x1 (x2 ||| (shlI (0 : Int32) x3)) (x3 + (1 : Int32)) ga4 else m_X10_begins_16 n x1 (x2 ||| (shlI (1 : Int32) x3)) (x3 + (1 : Int32)) ga4)))
set_option maxHeartbeats 2000000 in
theorem t_X10_begins_16 {r2 : Int32} {g2 : Mm} (X : gx_X p R s m args meth c D al cI cJ A RX10 cX10_begins 4 (some .int) d 0 0) (hd : 3 ≤ d) : ∀ (n : Nat) (x1 : Int32) (x2 : Int32) (x3 : Int32) (g : Mm), m_X10_begins_16 n x1 x2 x3 g = some (r2, g2) → gx_G p l e R s m args below meth c (gx_Q below args s D al cI cJ A (some (.int r2)) g2) D al cI cJ A 4 0 0 16 [(0, .ref (al (40))), (1, .int (x1)), (2, .int (x2)), (3, .int (x3))] [] g := by
  intro n
  induction n with
  | zero => intro x1 x2 x3 g h; cases h
  | succ n ih =>
    intro x1 x2 x3 g h
    rw [m_X10_begins_16] at h
    refine gx_iload_n X 3 rfl dX10_begins_16 ?_
    refine gx_aload_n X 0 rfl dX10_begins_17 ?_
    refine gx_getf X (40) lf_X10_21 (by decide) (cl_40 _ _) (v := .int ((rdI g 40 5))) rfl dX10_begins_18 ?_
    refine gx_icmp_ge X 48 dX10_begins_21 (by decide) (fun q1 => ?_) (fun q1 => ?_)
    · replace h := (if_pos q1).symm.trans h
      refine gx_iload_n X 1 rfl dX10_begins_48 ?_
      refine gx_if_ne X 54 dX10_begins_49 (by decide) (fun q2 => ?_) (fun q2 => ?_)
      · replace h := (if_neg q2).symm.trans h
        refine gx_iconst X (v := (0 : Int32)) dX10_begins_54 (by decide) ?_
        refine gx_istore_n X [(3, .int ((0 : Int32))), (0, .ref (al (40))), (1, .int (x1)), (2, .int (x2))] dX10_begins_55 (by decide) rfl ?_
        exact gx_sub [1, 3, 0] rfl (t_X10_begins_56 X hd fuL x2 (0 : Int32) g h)
      · replace h := (if_pos q2).symm.trans h
        refine gx_iload_n X 2 rfl dX10_begins_52 ?_
        obtain ⟨rfl, rfl⟩ := ret_eq h
        exact gx_iret X rfl dX10_begins_53
    · replace h := (if_neg q1).symm.trans h
      refine gx_iload_n X 2 rfl dX10_begins_24 ?_
      refine gx_aload_n X 0 rfl dX10_begins_25 ?_
      refine gx_iload_n X 3 rfl dX10_begins_26 ?_
      obtain ⟨ra3, ga4, ca5, h⟩ := bdd_eq h
      refine gx_callVi X (40) (c_X10_mayBegin ca5) lc_X10_mayBegin li_X10_mayBegin lm_X10_326 (by decide) (cl_40 _ _) rfl rfl rfl (Nat.le_trans (by decide) hd) rfl (Nat.le_of_ble_eq_true rfl) dX10_begins_27 ?_
      refine gx_if_eq X 37 dX10_begins_30 (by decide) (fun q6 => ?_) (fun q6 => ?_)
      · replace h := (if_pos q6).symm.trans h
        refine gx_iconst X (v := (0 : Int32)) dX10_begins_37 (by decide) ?_
        refine gx_iload_n X 3 rfl dX10_begins_38 ?_
        refine gx_ishl X dX10_begins_39 ?_
        refine gx_ior X dX10_begins_40 ?_
        refine gx_istore_n X [(2, .int ((x2 ||| (shlI (0 : Int32) x3)))), (0, .ref (al (40))), (1, .int (x1)), (3, .int (x3))] dX10_begins_41 (by decide) rfl ?_
        refine gx_iinc X [(3, .int ((x3 + (1 : Int32)))), (2, .int ((x2 ||| (shlI (0 : Int32) x3)))), (0, .ref (al (40))), (1, .int (x1))] 3 dX10_begins_42 rfl rfl (by decide) rfl ?_
        refine gx_goto X 16 dX10_begins_45 (by decide) ?_
        exact gx_sub [2, 3, 1, 0] rfl (ih x1 (x2 ||| (shlI (0 : Int32) x3)) (x3 + (1 : Int32)) ga4 h)
      · replace h := (if_neg q6).symm.trans h
        refine gx_iconst X (v := (1 : Int32)) dX10_begins_33 (by decide) ?_
        refine gx_goto X 38 dX10_begins_34 (by decide) ?_
        refine gx_iload_n X 3 rfl dX10_begins_38 ?_
        refine gx_ishl X dX10_begins_39 ?_
        refine gx_ior X dX10_begins_40 ?_
        refine gx_istore_n X [(2, .int ((x2 ||| (shlI (1 : Int32) x3)))), (0, .ref (al (40))), (1, .int (x1)), (3, .int (x3))] dX10_begins_41 (by decide) rfl ?_
        refine gx_iinc X [(3, .int ((x3 + (1 : Int32)))), (2, .int ((x2 ||| (shlI (1 : Int32) x3)))), (0, .ref (al (40))), (1, .int (x1))] 3 dX10_begins_42 rfl rfl (by decide) rfl ?_
        refine gx_goto X 16 dX10_begins_45 (by decide) ?_
        exact gx_sub [2, 3, 1, 0] rfl (ih x1 (x2 ||| (shlI (1 : Int32) x3)) (x3 + (1 : Int32)) ga4 h)
def m_X10_begins (a1 : Int32) (g : Mm) : Option (Int32 × Mm) := bdd (m_X10_in (a1.toInt64) (0 : Int64) (1 : Int64) g) (fun ra1 ga2 => (if ra1 = (0 : Int32) then some ((-1 : Int32), ga2) else m_X10_begins_16 fuL a1 (0 : Int32) (0 : Int32) ga2))
set_option maxHeartbeats 2000000 in
theorem c_X10_begins {r2 : Int32} {g g2 : Mm} {a1 : Int32} (h : m_X10_begins a1 g = some (r2, g2)) : gx_M 3 yX10_begins cX10_begins 4 (some .int) (fun al => [.ref (al (40)), .int (a1)]) g (some (.int r2)) g2 := by
  have hd : 3 ≤ 3 := Nat.le_refl _
  refine gx_M.of (by decide +kernel) (fun _ => Nat.le_of_ble_eq_true rfl) ?_
  intro p l e R s m args below meth c D al cI cJ A X
  refine gx_eq (pc' := 0) (ls' := [(0, .ref (al (40))), (1, .int (a1))]) (st' := []) (g' := g) ⟨rfl, rfl, rfl, rfl⟩ ?_
  unfold m_X10_begins at h
  refine gx_iload_n X 1 rfl dX10_begins_0 ?_
  refine gx_i2l X dX10_begins_1 ?_
  refine gx_lconst X (v := (0 : Int64)) dX10_begins_2 (by decide) ?_
  refine gx_lconst X (v := (1 : Int64)) dX10_begins_3 (by decide) ?_
  obtain ⟨ra1, ga2, ca3, h⟩ := bdd_eq h
  refine gx_callSi X (c_X10_in ca3) lc_X10_in li_X10_in lm_X10_92 rfl rfl (Nat.le_trans (by decide) hd) rfl (Nat.le_of_ble_eq_true rfl) dX10_begins_4 ?_
  refine gx_if_ne X 12 dX10_begins_7 (by decide) (fun q4 => ?_) (fun q4 => ?_)
  · replace h := (if_neg q4).symm.trans h
    refine gx_iconst X (v := (0 : Int32)) dX10_begins_12 (by decide) ?_
    refine gx_istore_n X [(2, .int ((0 : Int32))), (0, .ref (al (40))), (1, .int (a1))] dX10_begins_13 (by decide) rfl ?_
    refine gx_iconst X (v := (0 : Int32)) dX10_begins_14 (by decide) ?_
    refine gx_istore_n X [(3, .int ((0 : Int32))), (2, .int ((0 : Int32))), (0, .ref (al (40))), (1, .int (a1))] dX10_begins_15 (by decide) rfl ?_
    exact gx_sub [2, 3, 1, 0] rfl (t_X10_begins_16 X hd fuL a1 (0 : Int32) (0 : Int32) ga2 h)
  · replace h := (if_pos q4).symm.trans h
    refine gx_iconst X (v := (-1 : Int32)) dX10_begins_10 (by decide) ?_
    obtain ⟨rfl, rfl⟩ := ret_eq h
    exact gx_iret X rfl dX10_begins_11
theorem dX10_bell_0 : decode cX10_bell 0 = .ok (.iload_n 1, 1) := by decide +kernel
theorem dX10_bell_1 : decode cX10_bell 1 = .ok (.i2l, 1) := by decide +kernel
theorem dX10_bell_2 : decode cX10_bell 2 = .ok (.lconst 1, 1) := by decide +kernel
theorem dX10_bell_3 : decode cX10_bell 3 = .ok (.ldc2_w 103, 3) := by decide +kernel
theorem dX10_bell_6 : decode cX10_bell 6 = .ok (.invokestatic 92, 3) := by decide +kernel
theorem dX10_bell_9 : decode cX10_bell 9 = .ok (.ifCond .eq 27, 3) := by decide +kernel
theorem dX10_bell_12 : decode cX10_bell 12 = .ok (.iload_n 2, 1) := by decide +kernel
theorem dX10_bell_13 : decode cX10_bell 13 = .ok (.ifCond .lt 23, 3) := by decide +kernel
theorem dX10_bell_16 : decode cX10_bell 16 = .ok (.iload_n 2, 1) := by decide +kernel
theorem dX10_bell_17 : decode cX10_bell 17 = .ok (.sipush 1000, 3) := by decide +kernel
theorem dX10_bell_20 : decode cX10_bell 20 = .ok (.idiv, 1) := by decide +kernel
theorem dX10_bell_21 : decode cX10_bell 21 = .ok (.bipush 99, 2) := by decide +kernel
theorem dX10_bell_23 : decode cX10_bell 23 = .ok (.if_icmp .gt 13, 3) := by decide +kernel
theorem dX10_bell_26 : decode cX10_bell 26 = .ok (.iload_n 2, 1) := by decide +kernel
theorem dX10_bell_27 : decode cX10_bell 27 = .ok (.sipush 1000, 3) := by decide +kernel
theorem dX10_bell_30 : decode cX10_bell 30 = .ok (.irem, 1) := by decide +kernel
theorem dX10_bell_31 : decode cX10_bell 31 = .ok (.bipush 100, 2) := by decide +kernel
theorem dX10_bell_33 : decode cX10_bell 33 = .ok (.if_icmp .le 5, 3) := by decide +kernel
theorem dX10_bell_36 : decode cX10_bell 36 = .ok (.iconst (-1), 1) := by decide +kernel
theorem dX10_bell_37 : decode cX10_bell 37 = .ok (.ireturn, 1) := by decide +kernel
theorem dX10_bell_38 : decode cX10_bell 38 = .ok (.aload_n 0, 1) := by decide +kernel
theorem dX10_bell_39 : decode cX10_bell 39 = .ok (.getfield 89, 3) := by decide +kernel
theorem dX10_bell_42 : decode cX10_bell 42 = .ok (.bipush 6, 2) := by decide +kernel
theorem dX10_bell_44 : decode cX10_bell 44 = .ok (.if_icmp .ne 6, 3) := by decide +kernel
theorem dX10_bell_47 : decode cX10_bell 47 = .ok (.bipush (-3), 2) := by decide +kernel
theorem dX10_bell_49 : decode cX10_bell 49 = .ok (.ireturn, 1) := by decide +kernel
theorem dX10_bell_50 : decode cX10_bell 50 = .ok (.aload_n 0, 1) := by decide +kernel
theorem dX10_bell_51 : decode cX10_bell 51 = .ok (.getfield 9, 3) := by decide +kernel
theorem dX10_bell_54 : decode cX10_bell 54 = .ok (.aload_n 0, 1) := by decide +kernel
theorem dX10_bell_55 : decode cX10_bell 55 = .ok (.getfield 89, 3) := by decide +kernel
theorem dX10_bell_58 : decode cX10_bell 58 = .ok (.iload_n 1, 1) := by decide +kernel
theorem dX10_bell_59 : decode cX10_bell 59 = .ok (.iastore, 1) := by decide +kernel
theorem dX10_bell_60 : decode cX10_bell 60 = .ok (.aload_n 0, 1) := by decide +kernel
theorem dX10_bell_61 : decode cX10_bell 61 = .ok (.getfield 15, 3) := by decide +kernel
theorem dX10_bell_64 : decode cX10_bell 64 = .ok (.aload_n 0, 1) := by decide +kernel
theorem dX10_bell_65 : decode cX10_bell 65 = .ok (.getfield 89, 3) := by decide +kernel
theorem dX10_bell_68 : decode cX10_bell 68 = .ok (.iload_n 2, 1) := by decide +kernel
theorem dX10_bell_69 : decode cX10_bell 69 = .ok (.sipush 1000, 3) := by decide +kernel
theorem dX10_bell_72 : decode cX10_bell 72 = .ok (.idiv, 1) := by decide +kernel
theorem dX10_bell_73 : decode cX10_bell 73 = .ok (.iastore, 1) := by decide +kernel
theorem dX10_bell_74 : decode cX10_bell 74 = .ok (.aload_n 0, 1) := by decide +kernel
theorem dX10_bell_75 : decode cX10_bell 75 = .ok (.getfield 18, 3) := by decide +kernel
theorem dX10_bell_78 : decode cX10_bell 78 = .ok (.aload_n 0, 1) := by decide +kernel
theorem dX10_bell_79 : decode cX10_bell 79 = .ok (.getfield 89, 3) := by decide +kernel
theorem dX10_bell_82 : decode cX10_bell 82 = .ok (.iload_n 2, 1) := by decide +kernel
theorem dX10_bell_83 : decode cX10_bell 83 = .ok (.sipush 1000, 3) := by decide +kernel
theorem dX10_bell_86 : decode cX10_bell 86 = .ok (.irem, 1) := by decide +kernel
theorem dX10_bell_87 : decode cX10_bell 87 = .ok (.iastore, 1) := by decide +kernel
theorem dX10_bell_88 : decode cX10_bell 88 = .ok (.iconst 0, 1) := by decide +kernel
theorem dX10_bell_89 : decode cX10_bell 89 = .ok (.istore_n 3, 1) := by decide +kernel
theorem dX10_bell_90 : decode cX10_bell 90 = .ok (.iload_n 3, 1) := by decide +kernel
theorem dX10_bell_91 : decode cX10_bell 91 = .ok (.bipush 24, 2) := by decide +kernel
theorem dX10_bell_93 : decode cX10_bell 93 = .ok (.if_icmp .ge 24, 3) := by decide +kernel
theorem dX10_bell_96 : decode cX10_bell 96 = .ok (.aload_n 0, 1) := by decide +kernel
theorem dX10_bell_97 : decode cX10_bell 97 = .ok (.getfield 28, 3) := by decide +kernel
theorem dX10_bell_100 : decode cX10_bell 100 = .ok (.bipush 6, 2) := by decide +kernel
theorem dX10_bell_102 : decode cX10_bell 102 = .ok (.iload_n 3, 1) := by decide +kernel
theorem dX10_bell_103 : decode cX10_bell 103 = .ok (.imul, 1) := by decide +kernel
theorem dX10_bell_104 : decode cX10_bell 104 = .ok (.aload_n 0, 1) := by decide +kernel
theorem dX10_bell_105 : decode cX10_bell 105 = .ok (.getfield 89, 3) := by decide +kernel
theorem dX10_bell_108 : decode cX10_bell 108 = .ok (.iadd, 1) := by decide +kernel
theorem dX10_bell_109 : decode cX10_bell 109 = .ok (.iconst 0, 1) := by decide +kernel
theorem dX10_bell_110 : decode cX10_bell 110 = .ok (.iastore, 1) := by decide +kernel
theorem dX10_bell_111 : decode cX10_bell 111 = .ok (.iinc 3 1, 3) := by decide +kernel
theorem dX10_bell_114 : decode cX10_bell 114 = .ok (.goto (-24), 3) := by decide +kernel
theorem dX10_bell_117 : decode cX10_bell 117 = .ok (.aload_n 0, 1) := by decide +kernel
theorem dX10_bell_118 : decode cX10_bell 118 = .ok (.dup, 1) := by decide +kernel
theorem dX10_bell_119 : decode cX10_bell 119 = .ok (.getfield 89, 3) := by decide +kernel
theorem dX10_bell_122 : decode cX10_bell 122 = .ok (.iconst 1, 1) := by decide +kernel
theorem dX10_bell_123 : decode cX10_bell 123 = .ok (.iadd, 1) := by decide +kernel
theorem dX10_bell_124 : decode cX10_bell 124 = .ok (.putfield 89, 3) := by decide +kernel
theorem dX10_bell_127 : decode cX10_bell 127 = .ok (.aload_n 0, 1) := by decide +kernel
theorem dX10_bell_128 : decode cX10_bell 128 = .ok (.getfield 89, 3) := by decide +kernel
theorem dX10_bell_131 : decode cX10_bell 131 = .ok (.iconst 1, 1) := by decide +kernel
theorem dX10_bell_132 : decode cX10_bell 132 = .ok (.isub, 1) := by decide +kernel
theorem dX10_bell_133 : decode cX10_bell 133 = .ok (.ireturn, 1) := by decide +kernel
def m_X10_bell_90 : Nat → Int32 → Mm → Option (Int32 × Mm)
  | 0, _, _ => none
  | n + 1, x3, g => (if (24 : Int32) ≤ x3 then some (((rdI (wrI g 40 4 ((rdI g 40 4) + (1 : Int32))) 40 4) - (1 : Int32)), (wrI g 40 4 ((rdI g 40 4) + (1 : Int32)))) else gdd (ixo (((6 : Int32) * x3) + (rdI g 40 4)) 144) (m_X10_bell_90 n (x3 + (1 : Int32)) (wrI g 44 (((6 : Int32) * x3) + (rdI g 40 4)).toNatClampNeg (0 : Int32))))
set_option maxHeartbeats 2000000 in
theorem t_X10_bell_90 {r2 : Int32} {g2 : Mm} (X : gx_X p R s m args meth c D al cI cJ A RX10 cX10_bell 4 (some .int) d 0 0) (hd : 2 ≤ d) : ∀ (n : Nat) (x3 : Int32) (g : Mm), m_X10_bell_90 n x3 g = some (r2, g2) → gx_G p l e R s m args below meth c (gx_Q below args s D al cI cJ A (some (.int r2)) g2) D al cI cJ A 4 0 0 90 [(0, .ref (al (40))), (3, .int (x3))] [] g := by
  intro n
  induction n with
  | zero => intro x3 g h; cases h
  | succ n ih =>
    intro x3 g h
    rw [m_X10_bell_90] at h
    refine gx_iload_n X 1 rfl dX10_bell_90 ?_
    refine gx_bipush X (v := (24 : Int32)) dX10_bell_91 (by decide) ?_
    refine gx_icmp_ge X 117 dX10_bell_93 (by decide) (fun q1 => ?_) (fun q1 => ?_)
    · replace h := (if_pos q1).symm.trans h
      refine gx_aload_n X 0 rfl dX10_bell_117 ?_
      refine gx_dup X dX10_bell_118 rfl ?_
      refine gx_getf X (40) lf_X10_89 (by decide) (cl_40 _ _) (v := .int ((rdI g 40 4))) rfl dX10_bell_119 ?_
      refine gx_iconst X (v := (1 : Int32)) dX10_bell_122 (by decide) ?_
      refine gx_iadd X dX10_bell_123 ?_
      refine gx_putf X (40) ((rdI g 40 4) + (1 : Int32)) lf_X10_89 lp_X10_4 (by decide) (cl_40 _ _) (Nat.le_of_ble_eq_true rfl) rfl rfl rfl dX10_bell_124 ?_
      refine gx_aload_n X 0 rfl dX10_bell_127 ?_
      refine gx_getf X (40) lf_X10_89 (by decide) (cl_40 _ _) (v := .int ((rdI (wrI g 40 4 ((rdI g 40 4) + (1 : Int32))) 40 4))) rfl dX10_bell_128 ?_
      refine gx_iconst X (v := (1 : Int32)) dX10_bell_131 (by decide) ?_
      refine gx_isub X dX10_bell_132 ?_
      obtain ⟨rfl, rfl⟩ := ret_eq h
      exact gx_iret X rfl dX10_bell_133
    · replace h := (if_neg q1).symm.trans h
      refine gx_aload_n X 0 rfl dX10_bell_96 ?_
      refine gx_getf X (40) lf_X10_28 (by decide) (cl_40 _ _) (v := .ref (al (44))) rfl dX10_bell_97 ?_
      refine gx_bipush X (v := (6 : Int32)) dX10_bell_100 (by decide) ?_
      refine gx_iload_n X 1 rfl dX10_bell_102 ?_
      refine gx_imul X dX10_bell_103 ?_
      refine gx_aload_n X 0 rfl dX10_bell_104 ?_
      refine gx_getf X (40) lf_X10_89 (by decide) (cl_40 _ _) (v := .int ((rdI g 40 4))) rfl dX10_bell_105 ?_
      refine gx_iadd X dX10_bell_108 ?_
      refine gx_iconst X (v := (0 : Int32)) dX10_bell_109 (by decide) ?_
      obtain ⟨q2, h⟩ := gdd_eq h
      refine gx_iast X (44) 144 (by decide) (fun r => cl_44 r _) q2 dX10_bell_110 ?_
      refine gx_iinc X [(3, .int ((x3 + (1 : Int32)))), (0, .ref (al (40)))] 1 dX10_bell_111 rfl rfl (by decide) rfl ?_
      refine gx_goto X 90 dX10_bell_114 (by decide) ?_
      exact gx_sub [1, 0] rfl (ih (x3 + (1 : Int32)) (wrI g 44 (((6 : Int32) * x3) + (rdI g 40 4)).toNatClampNeg (0 : Int32)) h)
def m_X10_bell (a1 : Int32) (a2 : Int32) (g : Mm) : Option (Int32 × Mm) := bdd (m_X10_in (a1.toInt64) (1 : Int64) (15 : Int64) g) (fun ra1 ga2 => (if ra1 = (0 : Int32) then some ((-1 : Int32), ga2) else (if a2 < (0 : Int32) then some ((-1 : Int32), ga2) else (if (99 : Int32) < (a2 / (1000 : Int32)) then some ((-1 : Int32), ga2) else (if (rmI a2 (1000 : Int32)) ≤ (100 : Int32) then (if (rdI ga2 40 4) = (6 : Int32) then some ((-3 : Int32), ga2) else gdd (ixo (rdI ga2 40 4) 6) (gdd (ixo (rdI (wrI ga2 41 (rdI ga2 40 4).toNatClampNeg a1) 40 4) 6) (gdd (ixo (rdI (wrI (wrI ga2 41 (rdI ga2 40 4).toNatClampNeg a1) 42 (rdI (wrI ga2 41 (rdI ga2 40 4).toNatClampNeg a1) 40 4).toNatClampNeg (a2 / (1000 : Int32))) 40 4) 6) (m_X10_bell_90 fuL (0 : Int32) (wrI (wrI (wrI ga2 41 (rdI ga2 40 4).toNatClampNeg a1) 42 (rdI (wrI ga2 41 (rdI ga2 40 4).toNatClampNeg a1) 40 4).toNatClampNeg (a2 / (1000 : Int32))) 43 (rdI (wrI (wrI ga2 41 (rdI ga2 40 4).toNatClampNeg a1) 42 (rdI (wrI ga2 41 (rdI ga2 40 4).toNatClampNeg a1) 40 4).toNatClampNeg (a2 / (1000 : Int32))) 40 4).toNatClampNeg (rmI a2 (1000 : Int32))))))) else some ((-1 : Int32), ga2))))))
set_option maxHeartbeats 2000000 in
theorem c_X10_bell {r2 : Int32} {g g2 : Mm} {a1 : Int32} {a2 : Int32} (h : m_X10_bell a1 a2 g = some (r2, g2)) : gx_M 2 yX10_bell cX10_bell 4 (some .int) (fun al => [.ref (al (40)), .int (a1), .int (a2)]) g (some (.int r2)) g2 := by
  have hd : 2 ≤ 2 := Nat.le_refl _
  refine gx_M.of (by decide +kernel) (fun _ => Nat.le_of_ble_eq_true rfl) ?_
  intro p l e R s m args below meth c D al cI cJ A X
  refine gx_eq (pc' := 0) (ls' := [(0, .ref (al (40))), (1, .int (a1)), (2, .int (a2))]) (st' := []) (g' := g) ⟨rfl, rfl, rfl, rfl⟩ ?_
  unfold m_X10_bell at h
  refine gx_iload_n X 1 rfl dX10_bell_0 ?_
  refine gx_i2l X dX10_bell_1 ?_
  refine gx_lconst X (v := (1 : Int64)) dX10_bell_2 (by decide) ?_
  refine gx_ldc2 X (v := (15 : Int64)) lk_X10_103 dX10_bell_3 ?_
  obtain ⟨ra1, ga2, ca3, h⟩ := bdd_eq h
  refine gx_callSi X (c_X10_in ca3) lc_X10_in li_X10_in lm_X10_92 rfl rfl (Nat.le_trans (by decide) hd) rfl (Nat.le_of_ble_eq_true rfl) dX10_bell_6 ?_
  refine gx_if_eq X 36 dX10_bell_9 (by decide) (fun q4 => ?_) (fun q4 => ?_)
  · replace h := (if_pos q4).symm.trans h
    refine gx_iconst X (v := (-1 : Int32)) dX10_bell_36 (by decide) ?_
    obtain ⟨rfl, rfl⟩ := ret_eq h
    exact gx_iret X rfl dX10_bell_37
  · replace h := (if_neg q4).symm.trans h
    refine gx_iload_n X 2 rfl dX10_bell_12 ?_
    refine gx_if_lt X 36 dX10_bell_13 (by decide) (fun q5 => ?_) (fun q5 => ?_)
    · replace h := (if_pos q5).symm.trans h
      refine gx_iconst X (v := (-1 : Int32)) dX10_bell_36 (by decide) ?_
      obtain ⟨rfl, rfl⟩ := ret_eq h
      exact gx_iret X rfl dX10_bell_37
    · replace h := (if_neg q5).symm.trans h
      refine gx_iload_n X 2 rfl dX10_bell_16 ?_
      refine gx_sipush X (v := (1000 : Int32)) dX10_bell_17 (by decide) ?_
      refine gx_idiv X dX10_bell_20 (by decide) ?_
      refine gx_bipush X (v := (99 : Int32)) dX10_bell_21 (by decide) ?_
      refine gx_icmp_gt X 36 dX10_bell_23 (by decide) (fun q6 => ?_) (fun q6 => ?_)
      · replace h := (if_pos q6).symm.trans h
        refine gx_iconst X (v := (-1 : Int32)) dX10_bell_36 (by decide) ?_
        obtain ⟨rfl, rfl⟩ := ret_eq h
        exact gx_iret X rfl dX10_bell_37
      · replace h := (if_neg q6).symm.trans h
        refine gx_iload_n X 2 rfl dX10_bell_26 ?_
        refine gx_sipush X (v := (1000 : Int32)) dX10_bell_27 (by decide) ?_
        refine gx_irem X dX10_bell_30 (by decide) ?_
        refine gx_bipush X (v := (100 : Int32)) dX10_bell_31 (by decide) ?_
        refine gx_icmp_le X 38 dX10_bell_33 (by decide) (fun q7 => ?_) (fun q7 => ?_)
        · replace h := (if_pos q7).symm.trans h
          refine gx_aload_n X 0 rfl dX10_bell_38 ?_
          refine gx_getf X (40) lf_X10_89 (by decide) (cl_40 _ _) (v := .int ((rdI ga2 40 4))) rfl dX10_bell_39 ?_
          refine gx_bipush X (v := (6 : Int32)) dX10_bell_42 (by decide) ?_
          refine gx_icmp_ne X 50 dX10_bell_44 (by decide) (fun q8 => ?_) (fun q8 => ?_)
          · replace h := (if_neg q8).symm.trans h
            refine gx_aload_n X 0 rfl dX10_bell_50 ?_
            refine gx_getf X (40) lf_X10_9 (by decide) (cl_40 _ _) (v := .ref (al (41))) rfl dX10_bell_51 ?_
            refine gx_aload_n X 0 rfl dX10_bell_54 ?_
            refine gx_getf X (40) lf_X10_89 (by decide) (cl_40 _ _) (v := .int ((rdI ga2 40 4))) rfl dX10_bell_55 ?_
            refine gx_iload_n X 1 rfl dX10_bell_58 ?_
            obtain ⟨q9, h⟩ := gdd_eq h
            refine gx_iast X (41) 6 (by decide) (fun r => cl_41 r _) q9 dX10_bell_59 ?_
            refine gx_aload_n X 0 rfl dX10_bell_60 ?_
            refine gx_getf X (40) lf_X10_15 (by decide) (cl_40 _ _) (v := .ref (al (42))) rfl dX10_bell_61 ?_
            refine gx_aload_n X 0 rfl dX10_bell_64 ?_
            refine gx_getf X (40) lf_X10_89 (by decide) (cl_40 _ _) (v := .int ((rdI (wrI ga2 41 (rdI ga2 40 4).toNatClampNeg a1) 40 4))) rfl dX10_bell_65 ?_
            refine gx_iload_n X 2 rfl dX10_bell_68 ?_
            refine gx_sipush X (v := (1000 : Int32)) dX10_bell_69 (by decide) ?_
            refine gx_idiv X dX10_bell_72 (by decide) ?_
            obtain ⟨q10, h⟩ := gdd_eq h
            refine gx_iast X (42) 6 (by decide) (fun r => cl_42 r _) q10 dX10_bell_73 ?_
            refine gx_aload_n X 0 rfl dX10_bell_74 ?_
            refine gx_getf X (40) lf_X10_18 (by decide) (cl_40 _ _) (v := .ref (al (43))) rfl dX10_bell_75 ?_
            refine gx_aload_n X 0 rfl dX10_bell_78 ?_
            refine gx_getf X (40) lf_X10_89 (by decide) (cl_40 _ _) (v := .int ((rdI (wrI (wrI ga2 41 (rdI ga2 40 4).toNatClampNeg a1) 42 (rdI (wrI ga2 41 (rdI ga2 40 4).toNatClampNeg a1) 40 4).toNatClampNeg (a2 / (1000 : Int32))) 40 4))) rfl dX10_bell_79 ?_
            refine gx_iload_n X 2 rfl dX10_bell_82 ?_
            refine gx_sipush X (v := (1000 : Int32)) dX10_bell_83 (by decide) ?_
            refine gx_irem X dX10_bell_86 (by decide) ?_
            obtain ⟨q11, h⟩ := gdd_eq h
            refine gx_iast X (43) 6 (by decide) (fun r => cl_43 r _) q11 dX10_bell_87 ?_
            refine gx_iconst X (v := (0 : Int32)) dX10_bell_88 (by decide) ?_
            refine gx_istore_n X [(3, .int ((0 : Int32))), (0, .ref (al (40))), (1, .int (a1)), (2, .int (a2))] dX10_bell_89 (by decide) rfl ?_
            exact gx_sub [1, 0] rfl (t_X10_bell_90 X hd fuL (0 : Int32) (wrI (wrI (wrI ga2 41 (rdI ga2 40 4).toNatClampNeg a1) 42 (rdI (wrI ga2 41 (rdI ga2 40 4).toNatClampNeg a1) 40 4).toNatClampNeg (a2 / (1000 : Int32))) 43 (rdI (wrI (wrI ga2 41 (rdI ga2 40 4).toNatClampNeg a1) 42 (rdI (wrI ga2 41 (rdI ga2 40 4).toNatClampNeg a1) 40 4).toNatClampNeg (a2 / (1000 : Int32))) 40 4).toNatClampNeg (rmI a2 (1000 : Int32))) h)
          · replace h := (if_pos q8).symm.trans h
            refine gx_bipush X (v := (-3 : Int32)) dX10_bell_47 (by decide) ?_
            obtain ⟨rfl, rfl⟩ := ret_eq h
            exact gx_iret X rfl dX10_bell_49
        · replace h := (if_neg q7).symm.trans h
          refine gx_iconst X (v := (-1 : Int32)) dX10_bell_36 (by decide) ?_
          obtain ⟨rfl, rfl⟩ := ret_eq h
          exact gx_iret X rfl dX10_bell_37
theorem dX10_body_0 : decode cX10_body 0 = .ok (.iload_n 1, 1) := by decide +kernel
theorem dX10_body_1 : decode cX10_body 1 = .ok (.i2l, 1) := by decide +kernel
theorem dX10_body_2 : decode cX10_body 2 = .ok (.lconst 0, 1) := by decide +kernel
theorem dX10_body_3 : decode cX10_body 3 = .ok (.ldc2_w 332, 3) := by decide +kernel
theorem dX10_body_6 : decode cX10_body 6 = .ok (.invokestatic 92, 3) := by decide +kernel
theorem dX10_body_9 : decode cX10_body 9 = .ok (.ifCond .ne 5, 3) := by decide +kernel
theorem dX10_body_12 : decode cX10_body 12 = .ok (.iconst (-1), 1) := by decide +kernel
theorem dX10_body_13 : decode cX10_body 13 = .ok (.ireturn, 1) := by decide +kernel
theorem dX10_body_14 : decode cX10_body 14 = .ok (.aload_n 0, 1) := by decide +kernel
theorem dX10_body_15 : decode cX10_body 15 = .ok (.getfield 334, 3) := by decide +kernel
theorem dX10_body_18 : decode cX10_body 18 = .ok (.bipush 50, 2) := by decide +kernel
theorem dX10_body_20 : decode cX10_body 20 = .ok (.if_icmp .ne 6, 3) := by decide +kernel
theorem dX10_body_23 : decode cX10_body 23 = .ok (.bipush (-3), 2) := by decide +kernel
theorem dX10_body_25 : decode cX10_body 25 = .ok (.ireturn, 1) := by decide +kernel
theorem dX10_body_26 : decode cX10_body 26 = .ok (.aload_n 0, 1) := by decide +kernel
theorem dX10_body_27 : decode cX10_body 27 = .ok (.getfield 64, 3) := by decide +kernel
theorem dX10_body_30 : decode cX10_body 30 = .ok (.aload_n 0, 1) := by decide +kernel
theorem dX10_body_31 : decode cX10_body 31 = .ok (.getfield 334, 3) := by decide +kernel
theorem dX10_body_34 : decode cX10_body 34 = .ok (.iload_n 1, 1) := by decide +kernel
theorem dX10_body_35 : decode cX10_body 35 = .ok (.iastore, 1) := by decide +kernel
theorem dX10_body_36 : decode cX10_body 36 = .ok (.aload_n 0, 1) := by decide +kernel
theorem dX10_body_37 : decode cX10_body 37 = .ok (.dup, 1) := by decide +kernel
theorem dX10_body_38 : decode cX10_body 38 = .ok (.getfield 334, 3) := by decide +kernel
theorem dX10_body_41 : decode cX10_body 41 = .ok (.iconst 1, 1) := by decide +kernel
theorem dX10_body_42 : decode cX10_body 42 = .ok (.iadd, 1) := by decide +kernel
theorem dX10_body_43 : decode cX10_body 43 = .ok (.putfield 334, 3) := by decide +kernel
theorem dX10_body_46 : decode cX10_body 46 = .ok (.aload_n 0, 1) := by decide +kernel
theorem dX10_body_47 : decode cX10_body 47 = .ok (.getfield 334, 3) := by decide +kernel
theorem dX10_body_50 : decode cX10_body 50 = .ok (.iconst 1, 1) := by decide +kernel
theorem dX10_body_51 : decode cX10_body 51 = .ok (.isub, 1) := by decide +kernel
theorem dX10_body_52 : decode cX10_body 52 = .ok (.ireturn, 1) := by decide +kernel
def m_X10_body (a1 : Int32) (g : Mm) : Option (Int32 × Mm) := bdd (m_X10_in (a1.toInt64) (0 : Int64) (7 : Int64) g) (fun ra1 ga2 => (if ra1 = (0 : Int32) then some ((-1 : Int32), ga2) else (if (rdI ga2 40 40) = (50 : Int32) then some ((-3 : Int32), ga2) else gdd (ixo (rdI ga2 40 40) 50) (some (((rdI (wrI (wrI ga2 56 (rdI ga2 40 40).toNatClampNeg a1) 40 40 ((rdI (wrI ga2 56 (rdI ga2 40 40).toNatClampNeg a1) 40 40) + (1 : Int32))) 40 40) - (1 : Int32)), (wrI (wrI ga2 56 (rdI ga2 40 40).toNatClampNeg a1) 40 40 ((rdI (wrI ga2 56 (rdI ga2 40 40).toNatClampNeg a1) 40 40) + (1 : Int32))))))))
set_option maxHeartbeats 2000000 in
theorem c_X10_body {r2 : Int32} {g g2 : Mm} {a1 : Int32} (h : m_X10_body a1 g = some (r2, g2)) : gx_M 2 yX10_body cX10_body 2 (some .int) (fun al => [.ref (al (40)), .int (a1)]) g (some (.int r2)) g2 := by
  have hd : 2 ≤ 2 := Nat.le_refl _
  refine gx_M.of (by decide +kernel) (fun _ => Nat.le_of_ble_eq_true rfl) ?_
  intro p l e R s m args below meth c D al cI cJ A X
  refine gx_eq (pc' := 0) (ls' := [(0, .ref (al (40))), (1, .int (a1))]) (st' := []) (g' := g) ⟨rfl, rfl, rfl, rfl⟩ ?_
  unfold m_X10_body at h
  refine gx_iload_n X 1 rfl dX10_body_0 ?_
  refine gx_i2l X dX10_body_1 ?_
  refine gx_lconst X (v := (0 : Int64)) dX10_body_2 (by decide) ?_
  refine gx_ldc2 X (v := (7 : Int64)) lk_X10_332 dX10_body_3 ?_
  obtain ⟨ra1, ga2, ca3, h⟩ := bdd_eq h
  refine gx_callSi X (c_X10_in ca3) lc_X10_in li_X10_in lm_X10_92 rfl rfl (Nat.le_trans (by decide) hd) rfl (Nat.le_of_ble_eq_true rfl) dX10_body_6 ?_
  refine gx_if_ne X 14 dX10_body_9 (by decide) (fun q4 => ?_) (fun q4 => ?_)
  · replace h := (if_neg q4).symm.trans h
    refine gx_aload_n X 0 rfl dX10_body_14 ?_
    refine gx_getf X (40) lf_X10_334 (by decide) (cl_40 _ _) (v := .int ((rdI ga2 40 40))) rfl dX10_body_15 ?_
    refine gx_bipush X (v := (50 : Int32)) dX10_body_18 (by decide) ?_
    refine gx_icmp_ne X 26 dX10_body_20 (by decide) (fun q5 => ?_) (fun q5 => ?_)
    · replace h := (if_neg q5).symm.trans h
      refine gx_aload_n X 0 rfl dX10_body_26 ?_
      refine gx_getf X (40) lf_X10_64 (by decide) (cl_40 _ _) (v := .ref (al (56))) rfl dX10_body_27 ?_
      refine gx_aload_n X 0 rfl dX10_body_30 ?_
      refine gx_getf X (40) lf_X10_334 (by decide) (cl_40 _ _) (v := .int ((rdI ga2 40 40))) rfl dX10_body_31 ?_
      refine gx_iload_n X 1 rfl dX10_body_34 ?_
      obtain ⟨q6, h⟩ := gdd_eq h
      refine gx_iast X (56) 50 (by decide) (fun r => cl_56 r _) q6 dX10_body_35 ?_
      refine gx_aload_n X 0 rfl dX10_body_36 ?_
      refine gx_dup X dX10_body_37 rfl ?_
      refine gx_getf X (40) lf_X10_334 (by decide) (cl_40 _ _) (v := .int ((rdI (wrI ga2 56 (rdI ga2 40 40).toNatClampNeg a1) 40 40))) rfl dX10_body_38 ?_
      refine gx_iconst X (v := (1 : Int32)) dX10_body_41 (by decide) ?_
      refine gx_iadd X dX10_body_42 ?_
      refine gx_putf X (40) ((rdI (wrI ga2 56 (rdI ga2 40 40).toNatClampNeg a1) 40 40) + (1 : Int32)) lf_X10_334 lp_X10_40 (by decide) (cl_40 _ _) (Nat.le_of_ble_eq_true rfl) rfl rfl rfl dX10_body_43 ?_
      refine gx_aload_n X 0 rfl dX10_body_46 ?_
      refine gx_getf X (40) lf_X10_334 (by decide) (cl_40 _ _) (v := .int ((rdI (wrI (wrI ga2 56 (rdI ga2 40 40).toNatClampNeg a1) 40 40 ((rdI (wrI ga2 56 (rdI ga2 40 40).toNatClampNeg a1) 40 40) + (1 : Int32))) 40 40))) rfl dX10_body_47 ?_
      refine gx_iconst X (v := (1 : Int32)) dX10_body_50 (by decide) ?_
      refine gx_isub X dX10_body_51 ?_
      obtain ⟨rfl, rfl⟩ := ret_eq h
      exact gx_iret X rfl dX10_body_52
    · replace h := (if_pos q5).symm.trans h
      refine gx_bipush X (v := (-3 : Int32)) dX10_body_23 (by decide) ?_
      obtain ⟨rfl, rfl⟩ := ret_eq h
      exact gx_iret X rfl dX10_body_25
  · replace h := (if_pos q4).symm.trans h
    refine gx_iconst X (v := (-1 : Int32)) dX10_body_12 (by decide) ?_
    obtain ⟨rfl, rfl⟩ := ret_eq h
    exact gx_iret X rfl dX10_body_13
theorem dX10_sumOf_0 : decode cX10_sumOf 0 = .ok (.iconst 0, 1) := by decide +kernel
theorem dX10_sumOf_1 : decode cX10_sumOf 1 = .ok (.istore_n 2, 1) := by decide +kernel
theorem dX10_sumOf_2 : decode cX10_sumOf 2 = .ok (.iconst 0, 1) := by decide +kernel
theorem dX10_sumOf_3 : decode cX10_sumOf 3 = .ok (.istore_n 3, 1) := by decide +kernel
theorem dX10_sumOf_4 : decode cX10_sumOf 4 = .ok (.iload_n 3, 1) := by decide +kernel
theorem dX10_sumOf_5 : decode cX10_sumOf 5 = .ok (.aload_n 0, 1) := by decide +kernel
theorem dX10_sumOf_6 : decode cX10_sumOf 6 = .ok (.getfield 21, 3) := by decide +kernel
theorem dX10_sumOf_9 : decode cX10_sumOf 9 = .ok (.if_icmp .ge 23, 3) := by decide +kernel
theorem dX10_sumOf_12 : decode cX10_sumOf 12 = .ok (.iload_n 2, 1) := by decide +kernel
theorem dX10_sumOf_13 : decode cX10_sumOf 13 = .ok (.aload_n 0, 1) := by decide +kernel
theorem dX10_sumOf_14 : decode cX10_sumOf 14 = .ok (.getfield 28, 3) := by decide +kernel
theorem dX10_sumOf_17 : decode cX10_sumOf 17 = .ok (.bipush 6, 2) := by decide +kernel
theorem dX10_sumOf_19 : decode cX10_sumOf 19 = .ok (.iload_n 3, 1) := by decide +kernel
theorem dX10_sumOf_20 : decode cX10_sumOf 20 = .ok (.imul, 1) := by decide +kernel
theorem dX10_sumOf_21 : decode cX10_sumOf 21 = .ok (.iload_n 1, 1) := by decide +kernel
theorem dX10_sumOf_22 : decode cX10_sumOf 22 = .ok (.iadd, 1) := by decide +kernel
theorem dX10_sumOf_23 : decode cX10_sumOf 23 = .ok (.iaload, 1) := by decide +kernel
theorem dX10_sumOf_24 : decode cX10_sumOf 24 = .ok (.iadd, 1) := by decide +kernel
theorem dX10_sumOf_25 : decode cX10_sumOf 25 = .ok (.istore_n 2, 1) := by decide +kernel
theorem dX10_sumOf_26 : decode cX10_sumOf 26 = .ok (.iinc 3 1, 3) := by decide +kernel
theorem dX10_sumOf_29 : decode cX10_sumOf 29 = .ok (.goto (-25), 3) := by decide +kernel
theorem dX10_sumOf_32 : decode cX10_sumOf 32 = .ok (.iload_n 2, 1) := by decide +kernel
theorem dX10_sumOf_33 : decode cX10_sumOf 33 = .ok (.ireturn, 1) := by decide +kernel
def m_X10_sumOf_4 : Nat → Int32 → Int32 → Int32 → Mm → Option (Int32 × Mm)
  | 0, _, _, _, _ => none
  | n + 1, x1, x2, x3, g => (if (rdI g 40 5) ≤ x3 then some (x2, g) else gdd (ixo (((6 : Int32) * x3) + x1) 144) (lti (x2 + (rdI g 44 (((6 : Int32) * x3) + x1).toNatClampNeg)) (fun v3 => m_X10_sumOf_4 n x1 v3 (x3 + (1 : Int32)) g)))
set_option maxHeartbeats 2000000 in
theorem t_X10_sumOf_4 {r2 : Int32} {g2 : Mm} (X : gx_X p R s m args meth c D al cI cJ A RX10 cX10_sumOf 4 (some .int) d 0 0) (hd : 1 ≤ d) : ∀ (n : Nat) (x1 : Int32) (x2 : Int32) (x3 : Int32) (g : Mm), m_X10_sumOf_4 n x1 x2 x3 g = some (r2, g2) → gx_G p l e R s m args below meth c (gx_Q below args s D al cI cJ A (some (.int r2)) g2) D al cI cJ A 4 0 0 4 [(0, .ref (al (40))), (1, .int (x1)), (2, .int (x2)), (3, .int (x3))] [] g := by
  intro n
  induction n with
  | zero => intro x1 x2 x3 g h; cases h
  | succ n ih =>
    intro x1 x2 x3 g h
    rw [m_X10_sumOf_4] at h
    refine gx_iload_n X 3 rfl dX10_sumOf_4 ?_
    refine gx_aload_n X 0 rfl dX10_sumOf_5 ?_
    refine gx_getf X (40) lf_X10_21 (by decide) (cl_40 _ _) (v := .int ((rdI g 40 5))) rfl dX10_sumOf_6 ?_
    refine gx_icmp_ge X 32 dX10_sumOf_9 (by decide) (fun q1 => ?_) (fun q1 => ?_)
    · replace h := (if_pos q1).symm.trans h
      refine gx_iload_n X 2 rfl dX10_sumOf_32 ?_
      obtain ⟨rfl, rfl⟩ := ret_eq h
      exact gx_iret X rfl dX10_sumOf_33
    · replace h := (if_neg q1).symm.trans h
      refine gx_iload_n X 2 rfl dX10_sumOf_12 ?_
      refine gx_aload_n X 0 rfl dX10_sumOf_13 ?_
      refine gx_getf X (40) lf_X10_28 (by decide) (cl_40 _ _) (v := .ref (al (44))) rfl dX10_sumOf_14 ?_
      refine gx_bipush X (v := (6 : Int32)) dX10_sumOf_17 (by decide) ?_
      refine gx_iload_n X 3 rfl dX10_sumOf_19 ?_
      refine gx_imul X dX10_sumOf_20 ?_
      refine gx_iload_n X 1 rfl dX10_sumOf_21 ?_
      refine gx_iadd X dX10_sumOf_22 ?_
      obtain ⟨q2, h⟩ := gdd_eq h
      refine gx_iald X (44) 144 (by decide) (cl_44 _ _) q2 dX10_sumOf_23 ?_
      refine gx_iadd X dX10_sumOf_24 ?_
      obtain ⟨v3, ev3, h⟩ := lti_eq h
      refine gx_topi ev3 ?_
      refine gx_istore_n X [(2, .int (v3)), (0, .ref (al (40))), (1, .int (x1)), (3, .int (x3))] dX10_sumOf_25 (by decide) rfl ?_
      refine gx_iinc X [(3, .int ((x3 + (1 : Int32)))), (2, .int (v3)), (0, .ref (al (40))), (1, .int (x1))] 3 dX10_sumOf_26 rfl rfl (by decide) rfl ?_
      refine gx_goto X 4 dX10_sumOf_29 (by decide) ?_
      exact gx_sub [2, 3, 1, 0] rfl (ih x1 v3 (x3 + (1 : Int32)) g h)
def m_X10_sumOf (a1 : Int32) (g : Mm) : Option (Int32 × Mm) := m_X10_sumOf_4 fuL a1 (0 : Int32) (0 : Int32) g
set_option maxHeartbeats 2000000 in
theorem c_X10_sumOf {r2 : Int32} {g g2 : Mm} {a1 : Int32} (h : m_X10_sumOf a1 g = some (r2, g2)) : gx_M 1 yX10_sumOf cX10_sumOf 4 (some .int) (fun al => [.ref (al (40)), .int (a1)]) g (some (.int r2)) g2 := by
  have hd : 1 ≤ 1 := Nat.le_refl _
  refine gx_M.of (by decide +kernel) (fun _ => Nat.le_of_ble_eq_true rfl) ?_
  intro p l e R s m args below meth c D al cI cJ A X
  refine gx_eq (pc' := 0) (ls' := [(0, .ref (al (40))), (1, .int (a1))]) (st' := []) (g' := g) ⟨rfl, rfl, rfl, rfl⟩ ?_
  unfold m_X10_sumOf at h
  refine gx_iconst X (v := (0 : Int32)) dX10_sumOf_0 (by decide) ?_
  refine gx_istore_n X [(2, .int ((0 : Int32))), (0, .ref (al (40))), (1, .int (a1))] dX10_sumOf_1 (by decide) rfl ?_
  refine gx_iconst X (v := (0 : Int32)) dX10_sumOf_2 (by decide) ?_
  refine gx_istore_n X [(3, .int ((0 : Int32))), (2, .int ((0 : Int32))), (0, .ref (al (40))), (1, .int (a1))] dX10_sumOf_3 (by decide) rfl ?_
  exact gx_sub [2, 3, 1, 0] rfl (t_X10_sumOf_4 X hd fuL a1 (0 : Int32) (0 : Int32) g h)
theorem dX10_costOf_0 : decode cX10_costOf 0 = .ok (.iconst 2, 1) := by decide +kernel
theorem dX10_costOf_1 : decode cX10_costOf 1 = .ok (.aload_n 0, 1) := by decide +kernel
theorem dX10_costOf_2 : decode cX10_costOf 2 = .ok (.iload_n 1, 1) := by decide +kernel
theorem dX10_costOf_3 : decode cX10_costOf 3 = .ok (.invokevirtual 226, 3) := by decide +kernel
theorem dX10_costOf_6 : decode cX10_costOf 6 = .ok (.imul, 1) := by decide +kernel
theorem dX10_costOf_7 : decode cX10_costOf 7 = .ok (.aload_n 0, 1) := by decide +kernel
theorem dX10_costOf_8 : decode cX10_costOf 8 = .ok (.getfield 15, 3) := by decide +kernel
theorem dX10_costOf_11 : decode cX10_costOf 11 = .ok (.iload_n 1, 1) := by decide +kernel
theorem dX10_costOf_12 : decode cX10_costOf 12 = .ok (.iaload, 1) := by decide +kernel
theorem dX10_costOf_13 : decode cX10_costOf 13 = .ok (.imul, 1) := by decide +kernel
theorem dX10_costOf_14 : decode cX10_costOf 14 = .ok (.ireturn, 1) := by decide +kernel
def m_X10_costOf (a1 : Int32) (g : Mm) : Option (Int32 × Mm) := bdd (m_X10_sumOf a1 g) (fun ra1 ga2 => gdd (ixo a1 6) (some ((((2 : Int32) * ra1) * (rdI ga2 42 a1.toNatClampNeg)), ga2)))
set_option maxHeartbeats 2000000 in
theorem c_X10_costOf {r2 : Int32} {g g2 : Mm} {a1 : Int32} (h : m_X10_costOf a1 g = some (r2, g2)) : gx_M 2 yX10_costOf cX10_costOf 2 (some .int) (fun al => [.ref (al (40)), .int (a1)]) g (some (.int r2)) g2 := by
  have hd : 2 ≤ 2 := Nat.le_refl _
  refine gx_M.of (by decide +kernel) (fun _ => Nat.le_of_ble_eq_true rfl) ?_
  intro p l e R s m args below meth c D al cI cJ A X
  refine gx_eq (pc' := 0) (ls' := [(0, .ref (al (40))), (1, .int (a1))]) (st' := []) (g' := g) ⟨rfl, rfl, rfl, rfl⟩ ?_
  unfold m_X10_costOf at h
  refine gx_iconst X (v := (2 : Int32)) dX10_costOf_0 (by decide) ?_
  refine gx_aload_n X 0 rfl dX10_costOf_1 ?_
  refine gx_iload_n X 1 rfl dX10_costOf_2 ?_
  obtain ⟨ra1, ga2, ca3, h⟩ := bdd_eq h
  refine gx_callVi X (40) (c_X10_sumOf ca3) lc_X10_sumOf li_X10_sumOf lm_X10_226 (by decide) (cl_40 _ _) rfl rfl rfl (Nat.le_trans (by decide) hd) rfl (Nat.le_of_ble_eq_true rfl) dX10_costOf_3 ?_
  refine gx_imul X dX10_costOf_6 ?_
  refine gx_aload_n X 0 rfl dX10_costOf_7 ?_
  refine gx_getf X (40) lf_X10_15 (by decide) (cl_40 _ _) (v := .ref (al (42))) rfl dX10_costOf_8 ?_
  refine gx_iload_n X 1 rfl dX10_costOf_11 ?_
  obtain ⟨q4, h⟩ := gdd_eq h
  refine gx_iald X (42) 6 (by decide) (cl_42 _ _) q4 dX10_costOf_12 ?_
  refine gx_imul X dX10_costOf_13 ?_
  obtain ⟨rfl, rfl⟩ := ret_eq h
  exact gx_iret X rfl dX10_costOf_14
theorem dX10_count_0 : decode cX10_count 0 = .ok (.iload_n 1, 1) := by decide +kernel
theorem dX10_count_1 : decode cX10_count 1 = .ok (.i2l, 1) := by decide +kernel
theorem dX10_count_2 : decode cX10_count 2 = .ok (.lconst 0, 1) := by decide +kernel
theorem dX10_count_3 : decode cX10_count 3 = .ok (.ldc2_w 109, 3) := by decide +kernel
theorem dX10_count_6 : decode cX10_count 6 = .ok (.invokestatic 92, 3) := by decide +kernel
theorem dX10_count_9 : decode cX10_count 9 = .ok (.ifCond .ne 5, 3) := by decide +kernel
theorem dX10_count_12 : decode cX10_count 12 = .ok (.iconst (-1), 1) := by decide +kernel
theorem dX10_count_13 : decode cX10_count 13 = .ok (.ireturn, 1) := by decide +kernel
theorem dX10_count_14 : decode cX10_count 14 = .ok (.iload_n 1, 1) := by decide +kernel
theorem dX10_count_15 : decode cX10_count 15 = .ok (.iconst 3, 1) := by decide +kernel
theorem dX10_count_16 : decode cX10_count 16 = .ok (.if_icmp .ge 31, 3) := by decide +kernel
theorem dX10_count_19 : decode cX10_count 19 = .ok (.iload_n 1, 1) := by decide +kernel
theorem dX10_count_20 : decode cX10_count 20 = .ok (.ifCond .ne 10, 3) := by decide +kernel
theorem dX10_count_23 : decode cX10_count 23 = .ok (.aload_n 0, 1) := by decide +kernel
theorem dX10_count_24 : decode cX10_count 24 = .ok (.getfield 89, 3) := by decide +kernel
theorem dX10_count_27 : decode cX10_count 27 = .ok (.goto 19, 3) := by decide +kernel
theorem dX10_count_30 : decode cX10_count 30 = .ok (.iload_n 1, 1) := by decide +kernel
theorem dX10_count_31 : decode cX10_count 31 = .ok (.iconst 1, 1) := by decide +kernel
theorem dX10_count_32 : decode cX10_count 32 = .ok (.if_icmp .ne 10, 3) := by decide +kernel
theorem dX10_count_35 : decode cX10_count 35 = .ok (.aload_n 0, 1) := by decide +kernel
theorem dX10_count_36 : decode cX10_count 36 = .ok (.getfield 21, 3) := by decide +kernel
theorem dX10_count_39 : decode cX10_count 39 = .ok (.goto 7, 3) := by decide +kernel
theorem dX10_count_42 : decode cX10_count 42 = .ok (.aload_n 0, 1) := by decide +kernel
theorem dX10_count_43 : decode cX10_count 43 = .ok (.getfield 25, 3) := by decide +kernel
theorem dX10_count_46 : decode cX10_count 46 = .ok (.ireturn, 1) := by decide +kernel
theorem dX10_count_47 : decode cX10_count 47 = .ok (.iload_n 1, 1) := by decide +kernel
theorem dX10_count_48 : decode cX10_count 48 = .ok (.iconst 3, 1) := by decide +kernel
theorem dX10_count_49 : decode cX10_count 49 = .ok (.if_icmp .ne 10, 3) := by decide +kernel
theorem dX10_count_52 : decode cX10_count 52 = .ok (.aload_n 0, 1) := by decide +kernel
theorem dX10_count_53 : decode cX10_count 53 = .ok (.getfield 136, 3) := by decide +kernel
theorem dX10_count_56 : decode cX10_count 56 = .ok (.goto 31, 3) := by decide +kernel
theorem dX10_count_59 : decode cX10_count 59 = .ok (.iload_n 1, 1) := by decide +kernel
theorem dX10_count_60 : decode cX10_count 60 = .ok (.iconst 4, 1) := by decide +kernel
theorem dX10_count_61 : decode cX10_count 61 = .ok (.if_icmp .ne 10, 3) := by decide +kernel
theorem dX10_count_64 : decode cX10_count 64 = .ok (.aload_n 0, 1) := by decide +kernel
theorem dX10_count_65 : decode cX10_count 65 = .ok (.getfield 117, 3) := by decide +kernel
theorem dX10_count_68 : decode cX10_count 68 = .ok (.goto 19, 3) := by decide +kernel
theorem dX10_count_71 : decode cX10_count 71 = .ok (.iload_n 1, 1) := by decide +kernel
theorem dX10_count_72 : decode cX10_count 72 = .ok (.iconst 5, 1) := by decide +kernel
theorem dX10_count_73 : decode cX10_count 73 = .ok (.if_icmp .ne 10, 3) := by decide +kernel
theorem dX10_count_76 : decode cX10_count 76 = .ok (.aload_n 0, 1) := by decide +kernel
theorem dX10_count_77 : decode cX10_count 77 = .ok (.getfield 334, 3) := by decide +kernel
theorem dX10_count_80 : decode cX10_count 80 = .ok (.goto 7, 3) := by decide +kernel
theorem dX10_count_83 : decode cX10_count 83 = .ok (.aload_n 0, 1) := by decide +kernel
theorem dX10_count_84 : decode cX10_count 84 = .ok (.getfield 337, 3) := by decide +kernel
theorem dX10_count_87 : decode cX10_count 87 = .ok (.ireturn, 1) := by decide +kernel
def m_X10_count (a1 : Int32) (g : Mm) : Option (Int32 × Mm) := bdd (m_X10_in (a1.toInt64) (0 : Int64) (6 : Int64) g) (fun ra1 ga2 => (if ra1 = (0 : Int32) then some ((-1 : Int32), ga2) else (if (3 : Int32) ≤ a1 then (if a1 = (3 : Int32) then some ((rdI ga2 40 15), ga2) else (if a1 = (4 : Int32) then some ((rdI ga2 40 12), ga2) else (if a1 = (5 : Int32) then some ((rdI ga2 40 40), ga2) else some ((rdI ga2 40 42), ga2)))) else (if a1 = (0 : Int32) then some ((rdI ga2 40 4), ga2) else (if a1 = (1 : Int32) then some ((rdI ga2 40 5), ga2) else some ((rdI ga2 40 6), ga2))))))
set_option maxHeartbeats 2000000 in
theorem c_X10_count {r2 : Int32} {g g2 : Mm} {a1 : Int32} (h : m_X10_count a1 g = some (r2, g2)) : gx_M 2 yX10_count cX10_count 2 (some .int) (fun al => [.ref (al (40)), .int (a1)]) g (some (.int r2)) g2 := by
  have hd : 2 ≤ 2 := Nat.le_refl _
  refine gx_M.of (by decide +kernel) (fun _ => Nat.le_of_ble_eq_true rfl) ?_
  intro p l e R s m args below meth c D al cI cJ A X
  refine gx_eq (pc' := 0) (ls' := [(0, .ref (al (40))), (1, .int (a1))]) (st' := []) (g' := g) ⟨rfl, rfl, rfl, rfl⟩ ?_
  unfold m_X10_count at h
  refine gx_iload_n X 1 rfl dX10_count_0 ?_
  refine gx_i2l X dX10_count_1 ?_
  refine gx_lconst X (v := (0 : Int64)) dX10_count_2 (by decide) ?_
  refine gx_ldc2 X (v := (6 : Int64)) lk_X10_109 dX10_count_3 ?_
  obtain ⟨ra1, ga2, ca3, h⟩ := bdd_eq h
  refine gx_callSi X (c_X10_in ca3) lc_X10_in li_X10_in lm_X10_92 rfl rfl (Nat.le_trans (by decide) hd) rfl (Nat.le_of_ble_eq_true rfl) dX10_count_6 ?_
  refine gx_if_ne X 14 dX10_count_9 (by decide) (fun q4 => ?_) (fun q4 => ?_)
  · replace h := (if_neg q4).symm.trans h
    refine gx_iload_n X 1 rfl dX10_count_14 ?_
    refine gx_iconst X (v := (3 : Int32)) dX10_count_15 (by decide) ?_
    refine gx_icmp_ge X 47 dX10_count_16 (by decide) (fun q5 => ?_) (fun q5 => ?_)
    · replace h := (if_pos q5).symm.trans h
      refine gx_iload_n X 1 rfl dX10_count_47 ?_
      refine gx_iconst X (v := (3 : Int32)) dX10_count_48 (by decide) ?_
      refine gx_icmp_ne X 59 dX10_count_49 (by decide) (fun q6 => ?_) (fun q6 => ?_)
      · replace h := (if_neg q6).symm.trans h
        refine gx_iload_n X 1 rfl dX10_count_59 ?_
        refine gx_iconst X (v := (4 : Int32)) dX10_count_60 (by decide) ?_
        refine gx_icmp_ne X 71 dX10_count_61 (by decide) (fun q7 => ?_) (fun q7 => ?_)
        · replace h := (if_neg q7).symm.trans h
          refine gx_iload_n X 1 rfl dX10_count_71 ?_
          refine gx_iconst X (v := (5 : Int32)) dX10_count_72 (by decide) ?_
          refine gx_icmp_ne X 83 dX10_count_73 (by decide) (fun q8 => ?_) (fun q8 => ?_)
          · replace h := (if_neg q8).symm.trans h
            refine gx_aload_n X 0 rfl dX10_count_83 ?_
            refine gx_getf X (40) lf_X10_337 (by decide) (cl_40 _ _) (v := .int ((rdI ga2 40 42))) rfl dX10_count_84 ?_
            obtain ⟨rfl, rfl⟩ := ret_eq h
            exact gx_iret X rfl dX10_count_87
          · replace h := (if_pos q8).symm.trans h
            refine gx_aload_n X 0 rfl dX10_count_76 ?_
            refine gx_getf X (40) lf_X10_334 (by decide) (cl_40 _ _) (v := .int ((rdI ga2 40 40))) rfl dX10_count_77 ?_
            refine gx_goto X 87 dX10_count_80 (by decide) ?_
            obtain ⟨rfl, rfl⟩ := ret_eq h
            exact gx_iret X rfl dX10_count_87
        · replace h := (if_pos q7).symm.trans h
          refine gx_aload_n X 0 rfl dX10_count_64 ?_
          refine gx_getf X (40) lf_X10_117 (by decide) (cl_40 _ _) (v := .int ((rdI ga2 40 12))) rfl dX10_count_65 ?_
          refine gx_goto X 87 dX10_count_68 (by decide) ?_
          obtain ⟨rfl, rfl⟩ := ret_eq h
          exact gx_iret X rfl dX10_count_87
      · replace h := (if_pos q6).symm.trans h
        refine gx_aload_n X 0 rfl dX10_count_52 ?_
        refine gx_getf X (40) lf_X10_136 (by decide) (cl_40 _ _) (v := .int ((rdI ga2 40 15))) rfl dX10_count_53 ?_
        refine gx_goto X 87 dX10_count_56 (by decide) ?_
        obtain ⟨rfl, rfl⟩ := ret_eq h
        exact gx_iret X rfl dX10_count_87
    · replace h := (if_neg q5).symm.trans h
      refine gx_iload_n X 1 rfl dX10_count_19 ?_
      refine gx_if_ne X 30 dX10_count_20 (by decide) (fun q9 => ?_) (fun q9 => ?_)
      · replace h := (if_neg q9).symm.trans h
        refine gx_iload_n X 1 rfl dX10_count_30 ?_
        refine gx_iconst X (v := (1 : Int32)) dX10_count_31 (by decide) ?_
        refine gx_icmp_ne X 42 dX10_count_32 (by decide) (fun q10 => ?_) (fun q10 => ?_)
        · replace h := (if_neg q10).symm.trans h
          refine gx_aload_n X 0 rfl dX10_count_42 ?_
          refine gx_getf X (40) lf_X10_25 (by decide) (cl_40 _ _) (v := .int ((rdI ga2 40 6))) rfl dX10_count_43 ?_
          obtain ⟨rfl, rfl⟩ := ret_eq h
          exact gx_iret X rfl dX10_count_46
        · replace h := (if_pos q10).symm.trans h
          refine gx_aload_n X 0 rfl dX10_count_35 ?_
          refine gx_getf X (40) lf_X10_21 (by decide) (cl_40 _ _) (v := .int ((rdI ga2 40 5))) rfl dX10_count_36 ?_
          refine gx_goto X 46 dX10_count_39 (by decide) ?_
          obtain ⟨rfl, rfl⟩ := ret_eq h
          exact gx_iret X rfl dX10_count_46
      · replace h := (if_pos q9).symm.trans h
        refine gx_aload_n X 0 rfl dX10_count_23 ?_
        refine gx_getf X (40) lf_X10_89 (by decide) (cl_40 _ _) (v := .int ((rdI ga2 40 4))) rfl dX10_count_24 ?_
        refine gx_goto X 46 dX10_count_27 (by decide) ?_
        obtain ⟨rfl, rfl⟩ := ret_eq h
        exact gx_iret X rfl dX10_count_46
  · replace h := (if_pos q4).symm.trans h
    refine gx_iconst X (v := (-1 : Int32)) dX10_count_12 (by decide) ?_
    obtain ⟨rfl, rfl⟩ := ret_eq h
    exact gx_iret X rfl dX10_count_13
theorem dX10_counts_0 : decode cX10_counts 0 = .ok (.aload_n 0, 1) := by decide +kernel
theorem dX10_counts_1 : decode cX10_counts 1 = .ok (.getfield 21, 3) := by decide +kernel
theorem dX10_counts_4 : decode cX10_counts 4 = .ok (.iconst 1, 1) := by decide +kernel
theorem dX10_counts_5 : decode cX10_counts 5 = .ok (.isub, 1) := by decide +kernel
theorem dX10_counts_6 : decode cX10_counts 6 = .ok (.istore_n 1, 1) := by decide +kernel
theorem dX10_counts_7 : decode cX10_counts 7 = .ok (.iload_n 1, 1) := by decide +kernel
theorem dX10_counts_8 : decode cX10_counts 8 = .ok (.ifCond .lt 67, 3) := by decide +kernel
theorem dX10_counts_11 : decode cX10_counts 11 = .ok (.aload_n 0, 1) := by decide +kernel
theorem dX10_counts_12 : decode cX10_counts 12 = .ok (.getfield 89, 3) := by decide +kernel
theorem dX10_counts_15 : decode cX10_counts 15 = .ok (.iconst 1, 1) := by decide +kernel
theorem dX10_counts_16 : decode cX10_counts 16 = .ok (.isub, 1) := by decide +kernel
theorem dX10_counts_17 : decode cX10_counts 17 = .ok (.istore_n 2, 1) := by decide +kernel
theorem dX10_counts_18 : decode cX10_counts 18 = .ok (.iload_n 2, 1) := by decide +kernel
theorem dX10_counts_19 : decode cX10_counts 19 = .ok (.ifCond .lt 50, 3) := by decide +kernel
theorem dX10_counts_22 : decode cX10_counts 22 = .ok (.bipush 6, 2) := by decide +kernel
theorem dX10_counts_24 : decode cX10_counts 24 = .ok (.iload_n 1, 1) := by decide +kernel
theorem dX10_counts_25 : decode cX10_counts 25 = .ok (.imul, 1) := by decide +kernel
theorem dX10_counts_26 : decode cX10_counts 26 = .ok (.iload_n 2, 1) := by decide +kernel
theorem dX10_counts_27 : decode cX10_counts 27 = .ok (.iadd, 1) := by decide +kernel
theorem dX10_counts_28 : decode cX10_counts 28 = .ok (.istore_n 3, 1) := by decide +kernel
theorem dX10_counts_29 : decode cX10_counts 29 = .ok (.aload_n 0, 1) := by decide +kernel
theorem dX10_counts_30 : decode cX10_counts 30 = .ok (.getfield 28, 3) := by decide +kernel
theorem dX10_counts_33 : decode cX10_counts 33 = .ok (.iload_n 3, 1) := by decide +kernel
theorem dX10_counts_34 : decode cX10_counts 34 = .ok (.iaload, 1) := by decide +kernel
theorem dX10_counts_35 : decode cX10_counts 35 = .ok (.aload_n 0, 1) := by decide +kernel
theorem dX10_counts_36 : decode cX10_counts 36 = .ok (.getfield 9, 3) := by decide +kernel
theorem dX10_counts_39 : decode cX10_counts 39 = .ok (.iload_n 2, 1) := by decide +kernel
theorem dX10_counts_40 : decode cX10_counts 40 = .ok (.iaload, 1) := by decide +kernel
theorem dX10_counts_41 : decode cX10_counts 41 = .ok (.if_icmp .ge 15, 3) := by decide +kernel
theorem dX10_counts_44 : decode cX10_counts 44 = .ok (.aload_n 0, 1) := by decide +kernel
theorem dX10_counts_45 : decode cX10_counts 45 = .ok (.getfield 28, 3) := by decide +kernel
theorem dX10_counts_48 : decode cX10_counts 48 = .ok (.iload_n 3, 1) := by decide +kernel
theorem dX10_counts_49 : decode cX10_counts 49 = .ok (.dup2, 1) := by decide +kernel
theorem dX10_counts_50 : decode cX10_counts 50 = .ok (.iaload, 1) := by decide +kernel
theorem dX10_counts_51 : decode cX10_counts 51 = .ok (.iconst 1, 1) := by decide +kernel
theorem dX10_counts_52 : decode cX10_counts 52 = .ok (.iadd, 1) := by decide +kernel
theorem dX10_counts_53 : decode cX10_counts 53 = .ok (.iastore, 1) := by decide +kernel
theorem dX10_counts_54 : decode cX10_counts 54 = .ok (.iconst 1, 1) := by decide +kernel
theorem dX10_counts_55 : decode cX10_counts 55 = .ok (.ireturn, 1) := by decide +kernel
theorem dX10_counts_56 : decode cX10_counts 56 = .ok (.aload_n 0, 1) := by decide +kernel
theorem dX10_counts_57 : decode cX10_counts 57 = .ok (.getfield 28, 3) := by decide +kernel
theorem dX10_counts_60 : decode cX10_counts 60 = .ok (.iload_n 3, 1) := by decide +kernel
theorem dX10_counts_61 : decode cX10_counts 61 = .ok (.iconst 0, 1) := by decide +kernel
theorem dX10_counts_62 : decode cX10_counts 62 = .ok (.iastore, 1) := by decide +kernel
theorem dX10_counts_63 : decode cX10_counts 63 = .ok (.iinc 2 (-1), 3) := by decide +kernel
theorem dX10_counts_66 : decode cX10_counts 66 = .ok (.goto (-48), 3) := by decide +kernel
theorem dX10_counts_69 : decode cX10_counts 69 = .ok (.iinc 1 (-1), 3) := by decide +kernel
theorem dX10_counts_72 : decode cX10_counts 72 = .ok (.goto (-65), 3) := by decide +kernel
theorem dX10_counts_75 : decode cX10_counts 75 = .ok (.iconst 0, 1) := by decide +kernel
theorem dX10_counts_76 : decode cX10_counts 76 = .ok (.ireturn, 1) := by decide +kernel
def m_X10_counts_18 (K7 : Int32 → Mm → Option (Int32 × Mm)) : Nat → Int32 → Int32 → Mm → Option (Int32 × Mm)
  | 0, _, _, _ => none
  | n + 1, x1, x2, g => (if x2 < (0 : Int32) then K7 (x1 + (-1 : Int32)) g else gdd (ixo (((6 : Int32) * x1) + x2) 144) (gdd (ixo x2 6) ((if (rdI g 41 x2.toNatClampNeg) ≤ (rdI g 44 (((6 : Int32) * x1) + x2).toNatClampNeg) then gdd (ixo (((6 : Int32) * x1) + x2) 144) (m_X10_counts_18 K7 n x1 (x2 + (-1 : Int32)) (wrI g 44 (((6 : Int32) * x1) + x2).toNatClampNeg (0 : Int32))) else gdd (ixo (((6 : Int32) * x1) + x2) 144) (gdd (ixo (((6 : Int32) * x1) + x2) 144) (some ((1 : Int32), (wrI g 44 (((6 : Int32) * x1) + x2).toNatClampNeg ((rdI g 44 (((6 : Int32) * x1) + x2).toNatClampNeg) + (1 : Int32))))))))))
set_option maxHeartbeats 2000000 in
theorem t_X10_counts_18 {r2 : Int32} {g2 : Mm} (X : gx_X p R s m args meth c D al cI cJ A RX10 cX10_counts 4 (some .boolean) d 0 0) (hd : 1 ≤ d) {K7 : Int32 → Mm → Option (Int32 × Mm)} (hK7 : ∀ (u0 : Int32) (g : Mm), K7 u0 g = some (r2, g2) → gx_G p l e R s m args below meth c (gx_Q below args s D al cI cJ A (some (.int r2)) g2) D al cI cJ A 4 0 0 7 [(0, .ref (al (40))), (1, .int (u0))] [] g) : ∀ (n : Nat) (x1 : Int32) (x2 : Int32) (g : Mm), m_X10_counts_18 K7 n x1 x2 g = some (r2, g2) → gx_G p l e R s m args below meth c (gx_Q below args s D al cI cJ A (some (.int r2)) g2) D al cI cJ A 4 0 0 18 [(0, .ref (al (40))), (1, .int (x1)), (2, .int (x2))] [] g := by
  intro n
  induction n with
  | zero => intro x1 x2 g h; cases h
  | succ n ih =>
    intro x1 x2 g h
    rw [m_X10_counts_18] at h
    refine gx_iload_n X 2 rfl dX10_counts_18 ?_
    refine gx_if_lt X 69 dX10_counts_19 (by decide) (fun q1 => ?_) (fun q1 => ?_)
    · replace h := (if_pos q1).symm.trans h
      refine gx_iinc X [(1, .int ((x1 + (-1 : Int32)))), (0, .ref (al (40))), (2, .int (x2))] 1 dX10_counts_69 rfl rfl (by decide) rfl ?_
      refine gx_goto X 7 dX10_counts_72 (by decide) ?_
      exact gx_sub [1, 0] rfl (hK7 (x1 + (-1 : Int32)) g h)
    · replace h := (if_neg q1).symm.trans h
      refine gx_bipush X (v := (6 : Int32)) dX10_counts_22 (by decide) ?_
      refine gx_iload_n X 1 rfl dX10_counts_24 ?_
      refine gx_imul X dX10_counts_25 ?_
      refine gx_iload_n X 2 rfl dX10_counts_26 ?_
      refine gx_iadd X dX10_counts_27 ?_
      refine gx_istore_n X [(3, .int ((((6 : Int32) * x1) + x2))), (0, .ref (al (40))), (1, .int (x1)), (2, .int (x2))] dX10_counts_28 (by decide) rfl ?_
      refine gx_aload_n X 1 rfl dX10_counts_29 ?_
      refine gx_getf X (40) lf_X10_28 (by decide) (cl_40 _ _) (v := .ref (al (44))) rfl dX10_counts_30 ?_
      refine gx_iload_n X 0 rfl dX10_counts_33 ?_
      obtain ⟨q2, h⟩ := gdd_eq h
      refine gx_iald X (44) 144 (by decide) (cl_44 _ _) q2 dX10_counts_34 ?_
      refine gx_aload_n X 1 rfl dX10_counts_35 ?_
      refine gx_getf X (40) lf_X10_9 (by decide) (cl_40 _ _) (v := .ref (al (41))) rfl dX10_counts_36 ?_
      refine gx_iload_n X 3 rfl dX10_counts_39 ?_
      obtain ⟨q3, h⟩ := gdd_eq h
      refine gx_iald X (41) 6 (by decide) (cl_41 _ _) q3 dX10_counts_40 ?_
      refine gx_icmp_ge X 56 dX10_counts_41 (by decide) (fun q4 => ?_) (fun q4 => ?_)
      · replace h := (if_pos q4).symm.trans h
        refine gx_aload_n X 1 rfl dX10_counts_56 ?_
        refine gx_getf X (40) lf_X10_28 (by decide) (cl_40 _ _) (v := .ref (al (44))) rfl dX10_counts_57 ?_
        refine gx_iload_n X 0 rfl dX10_counts_60 ?_
        refine gx_iconst X (v := (0 : Int32)) dX10_counts_61 (by decide) ?_
        obtain ⟨q5, h⟩ := gdd_eq h
        refine gx_iast X (44) 144 (by decide) (fun r => cl_44 r _) q5 dX10_counts_62 ?_
        refine gx_iinc X [(2, .int ((x2 + (-1 : Int32)))), (3, .int ((((6 : Int32) * x1) + x2))), (0, .ref (al (40))), (1, .int (x1))] 3 dX10_counts_63 rfl rfl (by decide) rfl ?_
        refine gx_goto X 18 dX10_counts_66 (by decide) ?_
        exact gx_sub [2, 3, 0] rfl (ih x1 (x2 + (-1 : Int32)) (wrI g 44 (((6 : Int32) * x1) + x2).toNatClampNeg (0 : Int32)) h)
      · replace h := (if_neg q4).symm.trans h
        refine gx_aload_n X 1 rfl dX10_counts_44 ?_
        refine gx_getf X (40) lf_X10_28 (by decide) (cl_40 _ _) (v := .ref (al (44))) rfl dX10_counts_45 ?_
        refine gx_iload_n X 0 rfl dX10_counts_48 ?_
        refine gx_dup2 X dX10_counts_49 rfl rfl ?_
        obtain ⟨q6, h⟩ := gdd_eq h
        refine gx_iald X (44) 144 (by decide) (cl_44 _ _) q6 dX10_counts_50 ?_
        refine gx_iconst X (v := (1 : Int32)) dX10_counts_51 (by decide) ?_
        refine gx_iadd X dX10_counts_52 ?_
        obtain ⟨q7, h⟩ := gdd_eq h
        refine gx_iast X (44) 144 (by decide) (fun r => cl_44 r _) q7 dX10_counts_53 ?_
        refine gx_iconst X (v := (1 : Int32)) dX10_counts_54 (by decide) ?_
        obtain ⟨rfl, rfl⟩ := ret_eq h
        exact gx_iret X rfl dX10_counts_55
def m_X10_counts_7 : Nat → Int32 → Mm → Option (Int32 × Mm)
  | 0, _, _ => none
  | n + 1, x1, g => (if x1 < (0 : Int32) then some ((0 : Int32), g) else m_X10_counts_18 (m_X10_counts_7 n) fuL x1 ((rdI g 40 4) - (1 : Int32)) g)
set_option maxHeartbeats 2000000 in
theorem t_X10_counts_7 {r2 : Int32} {g2 : Mm} (X : gx_X p R s m args meth c D al cI cJ A RX10 cX10_counts 4 (some .boolean) d 0 0) (hd : 1 ≤ d) : ∀ (n : Nat) (x1 : Int32) (g : Mm), m_X10_counts_7 n x1 g = some (r2, g2) → gx_G p l e R s m args below meth c (gx_Q below args s D al cI cJ A (some (.int r2)) g2) D al cI cJ A 4 0 0 7 [(0, .ref (al (40))), (1, .int (x1))] [] g := by
  intro n
  induction n with
  | zero => intro x1 g h; cases h
  | succ n ih =>
    intro x1 g h
    rw [m_X10_counts_7] at h
    refine gx_iload_n X 1 rfl dX10_counts_7 ?_
    refine gx_if_lt X 75 dX10_counts_8 (by decide) (fun q1 => ?_) (fun q1 => ?_)
    · replace h := (if_pos q1).symm.trans h
      refine gx_iconst X (v := (0 : Int32)) dX10_counts_75 (by decide) ?_
      obtain ⟨rfl, rfl⟩ := ret_eq h
      exact gx_iret X rfl dX10_counts_76
    · replace h := (if_neg q1).symm.trans h
      refine gx_aload_n X 0 rfl dX10_counts_11 ?_
      refine gx_getf X (40) lf_X10_89 (by decide) (cl_40 _ _) (v := .int ((rdI g 40 4))) rfl dX10_counts_12 ?_
      refine gx_iconst X (v := (1 : Int32)) dX10_counts_15 (by decide) ?_
      refine gx_isub X dX10_counts_16 ?_
      refine gx_istore_n X [(2, .int (((rdI g 40 4) - (1 : Int32)))), (0, .ref (al (40))), (1, .int (x1))] dX10_counts_17 (by decide) rfl ?_
      exact gx_sub [1, 2, 0] rfl (t_X10_counts_18 X hd (fun u0 g h => ih u0 g h) fuL x1 ((rdI g 40 4) - (1 : Int32)) g h)
def m_X10_counts (g : Mm) : Option (Int32 × Mm) := m_X10_counts_7 fuL ((rdI g 40 5) - (1 : Int32)) g
set_option maxHeartbeats 2000000 in
theorem c_X10_counts {r2 : Int32} {g g2 : Mm} (h : m_X10_counts g = some (r2, g2)) : gx_M 1 yX10_counts cX10_counts 4 (some .boolean) (fun al => [.ref (al (40))]) g (some (.int r2)) g2 := by
  have hd : 1 ≤ 1 := Nat.le_refl _
  refine gx_M.of (by decide +kernel) (fun _ => Nat.le_of_ble_eq_true rfl) ?_
  intro p l e R s m args below meth c D al cI cJ A X
  refine gx_eq (pc' := 0) (ls' := [(0, .ref (al (40)))]) (st' := []) (g' := g) ⟨rfl, rfl, rfl, rfl⟩ ?_
  unfold m_X10_counts at h
  refine gx_aload_n X 0 rfl dX10_counts_0 ?_
  refine gx_getf X (40) lf_X10_21 (by decide) (cl_40 _ _) (v := .int ((rdI g 40 5))) rfl dX10_counts_1 ?_
  refine gx_iconst X (v := (1 : Int32)) dX10_counts_4 (by decide) ?_
  refine gx_isub X dX10_counts_5 ?_
  refine gx_istore_n X [(1, .int (((rdI g 40 5) - (1 : Int32)))), (0, .ref (al (40)))] dX10_counts_6 (by decide) rfl ?_
  exact gx_sub [1, 0] rfl (t_X10_counts_7 X hd fuL ((rdI g 40 5) - (1 : Int32)) g h)
theorem dX10_isShelf_0 : decode cX10_isShelf 0 = .ok (.iload_n 0, 1) := by decide +kernel
theorem dX10_isShelf_1 : decode cX10_isShelf 1 = .ok (.i2l, 1) := by decide +kernel
theorem dX10_isShelf_2 : decode cX10_isShelf 2 = .ok (.lconst 0, 1) := by decide +kernel
theorem dX10_isShelf_3 : decode cX10_isShelf 3 = .ok (.ldc2_w 365, 3) := by decide +kernel
theorem dX10_isShelf_6 : decode cX10_isShelf 6 = .ok (.invokestatic 92, 3) := by decide +kernel
theorem dX10_isShelf_9 : decode cX10_isShelf 9 = .ok (.ireturn, 1) := by decide +kernel
def m_X10_isShelf (a0 : Int32) (g : Mm) : Option (Int32 × Mm) := bdd (m_X10_in (a0.toInt64) (0 : Int64) (5 : Int64) g) (fun ra1 ga2 => gdd (zbI ra1) (some (ra1, ga2)))
set_option maxHeartbeats 2000000 in
theorem c_X10_isShelf {r2 : Int32} {g g2 : Mm} {a0 : Int32} (h : m_X10_isShelf a0 g = some (r2, g2)) : gx_M 2 yX10_isShelf cX10_isShelf 1 (some .boolean) (fun al => [.int (a0)]) g (some (.int r2)) g2 := by
  have hd : 2 ≤ 2 := Nat.le_refl _
  refine gx_M.of (by decide +kernel) (fun _ => Nat.le_of_ble_eq_true rfl) ?_
  intro p l e R s m args below meth c D al cI cJ A X
  refine gx_eq (pc' := 0) (ls' := [(0, .int (a0))]) (st' := []) (g' := g) ⟨rfl, rfl, rfl, rfl⟩ ?_
  unfold m_X10_isShelf at h
  refine gx_iload_n X 0 rfl dX10_isShelf_0 ?_
  refine gx_i2l X dX10_isShelf_1 ?_
  refine gx_lconst X (v := (0 : Int64)) dX10_isShelf_2 (by decide) ?_
  refine gx_ldc2 X (v := (5 : Int64)) lk_X10_365 dX10_isShelf_3 ?_
  obtain ⟨ra1, ga2, ca3, h⟩ := bdd_eq h
  refine gx_callSi X (c_X10_in ca3) lc_X10_in li_X10_in lm_X10_92 rfl rfl (Nat.le_trans (by decide) hd) rfl (Nat.le_of_ble_eq_true rfl) dX10_isShelf_6 ?_
  obtain ⟨q4, h⟩ := gdd_eq h
  obtain ⟨rfl, rfl⟩ := ret_eq h
  exact gx_iret X (zbI_n q4) dX10_isShelf_9
theorem dX10_look_0 : decode cX10_look 0 = .ok (.iload_n 1, 1) := by decide +kernel
theorem dX10_look_1 : decode cX10_look 1 = .ok (.invokestatic 367, 3) := by decide +kernel
theorem dX10_look_4 : decode cX10_look 4 = .ok (.ifCond .ne 5, 3) := by decide +kernel
theorem dX10_look_7 : decode cX10_look 7 = .ok (.iconst (-1), 1) := by decide +kernel
theorem dX10_look_8 : decode cX10_look 8 = .ok (.ireturn, 1) := by decide +kernel
theorem dX10_look_9 : decode cX10_look 9 = .ok (.aload_n 0, 1) := by decide +kernel
theorem dX10_look_10 : decode cX10_look 10 = .ok (.getfield 70, 3) := by decide +kernel
theorem dX10_look_13 : decode cX10_look 13 = .ok (.iload_n 1, 1) := by decide +kernel
theorem dX10_look_14 : decode cX10_look 14 = .ok (.iaload, 1) := by decide +kernel
theorem dX10_look_15 : decode cX10_look 15 = .ok (.iconst 2, 1) := by decide +kernel
theorem dX10_look_16 : decode cX10_look 16 = .ok (.if_icmp .eq 20, 3) := by decide +kernel
theorem dX10_look_19 : decode cX10_look 19 = .ok (.aload_n 0, 1) := by decide +kernel
theorem dX10_look_20 : decode cX10_look 20 = .ok (.getfield 70, 3) := by decide +kernel
theorem dX10_look_23 : decode cX10_look 23 = .ok (.iload_n 1, 1) := by decide +kernel
theorem dX10_look_24 : decode cX10_look 24 = .ok (.iaload, 1) := by decide +kernel
theorem dX10_look_25 : decode cX10_look 25 = .ok (.ifCond .ne 8, 3) := by decide +kernel
theorem dX10_look_28 : decode cX10_look 28 = .ok (.bipush (-11), 2) := by decide +kernel
theorem dX10_look_30 : decode cX10_look 30 = .ok (.goto 5, 3) := by decide +kernel
theorem dX10_look_33 : decode cX10_look 33 = .ok (.bipush (-12), 2) := by decide +kernel
theorem dX10_look_35 : decode cX10_look 35 = .ok (.ireturn, 1) := by decide +kernel
theorem dX10_look_36 : decode cX10_look 36 = .ok (.iload_n 2, 1) := by decide +kernel
theorem dX10_look_37 : decode cX10_look 37 = .ok (.i2l, 1) := by decide +kernel
theorem dX10_look_38 : decode cX10_look 38 = .ok (.lconst 0, 1) := by decide +kernel
theorem dX10_look_39 : decode cX10_look 39 = .ok (.aload_n 0, 1) := by decide +kernel
theorem dX10_look_40 : decode cX10_look 40 = .ok (.getfield 79, 3) := by decide +kernel
theorem dX10_look_43 : decode cX10_look 43 = .ok (.iload_n 1, 1) := by decide +kernel
theorem dX10_look_44 : decode cX10_look 44 = .ok (.iaload, 1) := by decide +kernel
theorem dX10_look_45 : decode cX10_look 45 = .ok (.iconst 1, 1) := by decide +kernel
theorem dX10_look_46 : decode cX10_look 46 = .ok (.isub, 1) := by decide +kernel
theorem dX10_look_47 : decode cX10_look 47 = .ok (.i2l, 1) := by decide +kernel
theorem dX10_look_48 : decode cX10_look 48 = .ok (.invokestatic 92, 3) := by decide +kernel
theorem dX10_look_51 : decode cX10_look 51 = .ok (.ifCond .eq 7, 3) := by decide +kernel
theorem dX10_look_54 : decode cX10_look 54 = .ok (.iconst 1, 1) := by decide +kernel
theorem dX10_look_55 : decode cX10_look 55 = .ok (.goto 5, 3) := by decide +kernel
theorem dX10_look_58 : decode cX10_look 58 = .ok (.bipush (-13), 2) := by decide +kernel
theorem dX10_look_60 : decode cX10_look 60 = .ok (.ireturn, 1) := by decide +kernel
def m_X10_look (a1 : Int32) (a2 : Int32) (g : Mm) : Option (Int32 × Mm) := bdd (m_X10_isShelf a1 g) (fun ra1 ga2 => (if ra1 = (0 : Int32) then some ((-1 : Int32), ga2) else gdd (ixo a1 6) ((if (rdI ga2 58 a1.toNatClampNeg) = (2 : Int32) then gdd (ixo a1 6) (bdd (m_X10_in (a2.toInt64) (0 : Int64) (((rdI ga2 61 a1.toNatClampNeg) - (1 : Int32)).toInt64) ga2) (fun ra8 ga9 => (if ra8 = (0 : Int32) then some ((-13 : Int32), ga9) else some ((1 : Int32), ga9)))) else gdd (ixo a1 6) ((if (rdI ga2 58 a1.toNatClampNeg) = (0 : Int32) then some ((-11 : Int32), ga2) else some ((-12 : Int32), ga2)))))))
set_option maxHeartbeats 2000000 in
theorem c_X10_look {r2 : Int32} {g g2 : Mm} {a1 : Int32} {a2 : Int32} (h : m_X10_look a1 a2 g = some (r2, g2)) : gx_M 3 yX10_look cX10_look 3 (some .int) (fun al => [.ref (al (40)), .int (a1), .int (a2)]) g (some (.int r2)) g2 := by
  have hd : 3 ≤ 3 := Nat.le_refl _
  refine gx_M.of (by decide +kernel) (fun _ => Nat.le_of_ble_eq_true rfl) ?_
  intro p l e R s m args below meth c D al cI cJ A X
  refine gx_eq (pc' := 0) (ls' := [(0, .ref (al (40))), (1, .int (a1)), (2, .int (a2))]) (st' := []) (g' := g) ⟨rfl, rfl, rfl, rfl⟩ ?_
  unfold m_X10_look at h
  refine gx_iload_n X 1 rfl dX10_look_0 ?_
  obtain ⟨ra1, ga2, ca3, h⟩ := bdd_eq h
  refine gx_callSi X (c_X10_isShelf ca3) lc_X10_isShelf li_X10_isShelf lm_X10_367 rfl rfl (Nat.le_trans (by decide) hd) rfl (Nat.le_of_ble_eq_true rfl) dX10_look_1 ?_
  refine gx_if_ne X 9 dX10_look_4 (by decide) (fun q4 => ?_) (fun q4 => ?_)
  · replace h := (if_neg q4).symm.trans h
    refine gx_aload_n X 0 rfl dX10_look_9 ?_
    refine gx_getf X (40) lf_X10_70 (by decide) (cl_40 _ _) (v := .ref (al (58))) rfl dX10_look_10 ?_
    refine gx_iload_n X 1 rfl dX10_look_13 ?_
    obtain ⟨q5, h⟩ := gdd_eq h
    refine gx_iald X (58) 6 (by decide) (cl_58 _ _) q5 dX10_look_14 ?_
    refine gx_iconst X (v := (2 : Int32)) dX10_look_15 (by decide) ?_
    refine gx_icmp_eq X 36 dX10_look_16 (by decide) (fun q6 => ?_) (fun q6 => ?_)
    · replace h := (if_pos q6).symm.trans h
      refine gx_iload_n X 2 rfl dX10_look_36 ?_
      refine gx_i2l X dX10_look_37 ?_
      refine gx_lconst X (v := (0 : Int64)) dX10_look_38 (by decide) ?_
      refine gx_aload_n X 0 rfl dX10_look_39 ?_
      refine gx_getf X (40) lf_X10_79 (by decide) (cl_40 _ _) (v := .ref (al (61))) rfl dX10_look_40 ?_
      refine gx_iload_n X 1 rfl dX10_look_43 ?_
      obtain ⟨q7, h⟩ := gdd_eq h
      refine gx_iald X (61) 6 (by decide) (cl_61 _ _) q7 dX10_look_44 ?_
      refine gx_iconst X (v := (1 : Int32)) dX10_look_45 (by decide) ?_
      refine gx_isub X dX10_look_46 ?_
      refine gx_i2l X dX10_look_47 ?_
      obtain ⟨ra8, ga9, ca10, h⟩ := bdd_eq h
      refine gx_callSi X (c_X10_in ca10) lc_X10_in li_X10_in lm_X10_92 rfl rfl (Nat.le_trans (by decide) hd) rfl (Nat.le_of_ble_eq_true rfl) dX10_look_48 ?_
      refine gx_if_eq X 58 dX10_look_51 (by decide) (fun q11 => ?_) (fun q11 => ?_)
      · replace h := (if_pos q11).symm.trans h
        refine gx_bipush X (v := (-13 : Int32)) dX10_look_58 (by decide) ?_
        obtain ⟨rfl, rfl⟩ := ret_eq h
        exact gx_iret X rfl dX10_look_60
      · replace h := (if_neg q11).symm.trans h
        refine gx_iconst X (v := (1 : Int32)) dX10_look_54 (by decide) ?_
        refine gx_goto X 60 dX10_look_55 (by decide) ?_
        obtain ⟨rfl, rfl⟩ := ret_eq h
        exact gx_iret X rfl dX10_look_60
    · replace h := (if_neg q6).symm.trans h
      refine gx_aload_n X 0 rfl dX10_look_19 ?_
      refine gx_getf X (40) lf_X10_70 (by decide) (cl_40 _ _) (v := .ref (al (58))) rfl dX10_look_20 ?_
      refine gx_iload_n X 1 rfl dX10_look_23 ?_
      obtain ⟨q12, h⟩ := gdd_eq h
      refine gx_iald X (58) 6 (by decide) (cl_58 _ _) q12 dX10_look_24 ?_
      refine gx_if_ne X 33 dX10_look_25 (by decide) (fun q13 => ?_) (fun q13 => ?_)
      · replace h := (if_neg q13).symm.trans h
        refine gx_bipush X (v := (-12 : Int32)) dX10_look_33 (by decide) ?_
        obtain ⟨rfl, rfl⟩ := ret_eq h
        exact gx_iret X rfl dX10_look_35
      · replace h := (if_pos q13).symm.trans h
        refine gx_bipush X (v := (-11 : Int32)) dX10_look_28 (by decide) ?_
        refine gx_goto X 35 dX10_look_30 (by decide) ?_
        obtain ⟨rfl, rfl⟩ := ret_eq h
        exact gx_iret X rfl dX10_look_35
  · replace h := (if_pos q4).symm.trans h
    refine gx_iconst X (v := (-1 : Int32)) dX10_look_7 (by decide) ?_
    obtain ⟨rfl, rfl⟩ := ret_eq h
    exact gx_iret X rfl dX10_look_8
theorem dX10_element_0 : decode cX10_element 0 = .ok (.aload_n 0, 1) := by decide +kernel
theorem dX10_element_1 : decode cX10_element 1 = .ok (.iload_n 1, 1) := by decide +kernel
theorem dX10_element_2 : decode cX10_element 2 = .ok (.iload_n 2, 1) := by decide +kernel
theorem dX10_element_3 : decode cX10_element 3 = .ok (.invokevirtual 372, 3) := by decide +kernel
theorem dX10_element_6 : decode cX10_element 6 = .ok (.iconst 1, 1) := by decide +kernel
theorem dX10_element_7 : decode cX10_element 7 = .ok (.if_icmp .ne 17, 3) := by decide +kernel
theorem dX10_element_10 : decode cX10_element 10 = .ok (.aload_n 0, 1) := by decide +kernel
theorem dX10_element_11 : decode cX10_element 11 = .ok (.getfield 82, 3) := by decide +kernel
theorem dX10_element_14 : decode cX10_element 14 = .ok (.bipush 60, 2) := by decide +kernel
theorem dX10_element_16 : decode cX10_element 16 = .ok (.iload_n 1, 1) := by decide +kernel
theorem dX10_element_17 : decode cX10_element 17 = .ok (.imul, 1) := by decide +kernel
theorem dX10_element_18 : decode cX10_element 18 = .ok (.iload_n 2, 1) := by decide +kernel
theorem dX10_element_19 : decode cX10_element 19 = .ok (.iadd, 1) := by decide +kernel
theorem dX10_element_20 : decode cX10_element 20 = .ok (.laload, 1) := by decide +kernel
theorem dX10_element_21 : decode cX10_element 21 = .ok (.goto 6, 3) := by decide +kernel
theorem dX10_element_24 : decode cX10_element 24 = .ok (.ldc2_w 285, 3) := by decide +kernel
theorem dX10_element_27 : decode cX10_element 27 = .ok (.lreturn, 1) := by decide +kernel
def m_X10_element (a1 : Int32) (a2 : Int32) (g : Mm) : Option (Int64 × Mm) := bdd (m_X10_look a1 a2 g) (fun ra1 ga2 => (if ra1 = (1 : Int32) then gdd (ixo (((60 : Int32) * a1) + a2) 360) (some ((rdL ga2 62 (((60 : Int32) * a1) + a2).toNatClampNeg), ga2)) else some ((-9223372036854775808 : Int64), ga2)))
set_option maxHeartbeats 2000000 in
theorem c_X10_element {r2 : Int64} {g g2 : Mm} {a1 : Int32} {a2 : Int32} (h : m_X10_element a1 a2 g = some (r2, g2)) : gx_M 4 yX10_element cX10_element 3 (some .long) (fun al => [.ref (al (40)), .int (a1), .int (a2)]) g (some (.long r2)) g2 := by
  have hd : 4 ≤ 4 := Nat.le_refl _
  refine gx_M.of (by decide +kernel) (fun _ => Nat.le_of_ble_eq_true rfl) ?_
  intro p l e R s m args below meth c D al cI cJ A X
  refine gx_eq (pc' := 0) (ls' := [(0, .ref (al (40))), (1, .int (a1)), (2, .int (a2))]) (st' := []) (g' := g) ⟨rfl, rfl, rfl, rfl⟩ ?_
  unfold m_X10_element at h
  refine gx_aload_n X 0 rfl dX10_element_0 ?_
  refine gx_iload_n X 1 rfl dX10_element_1 ?_
  refine gx_iload_n X 2 rfl dX10_element_2 ?_
  obtain ⟨ra1, ga2, ca3, h⟩ := bdd_eq h
  refine gx_callVi X (40) (c_X10_look ca3) lc_X10_look li_X10_look lm_X10_372 (by decide) (cl_40 _ _) rfl rfl rfl (Nat.le_trans (by decide) hd) rfl (Nat.le_of_ble_eq_true rfl) dX10_element_3 ?_
  refine gx_iconst X (v := (1 : Int32)) dX10_element_6 (by decide) ?_
  refine gx_icmp_ne X 24 dX10_element_7 (by decide) (fun q4 => ?_) (fun q4 => ?_)
  · replace h := (if_neg q4).symm.trans h
    refine gx_ldc2 X (v := (-9223372036854775808 : Int64)) lk_X10_285 dX10_element_24 ?_
    obtain ⟨rfl, rfl⟩ := ret_eq h
    exact gx_lret X dX10_element_27
  · replace h := (if_pos q4).symm.trans h
    refine gx_aload_n X 0 rfl dX10_element_10 ?_
    refine gx_getf X (40) lf_X10_82 (by decide) (cl_40 _ _) (v := .ref (al (62))) rfl dX10_element_11 ?_
    refine gx_bipush X (v := (60 : Int32)) dX10_element_14 (by decide) ?_
    refine gx_iload_n X 1 rfl dX10_element_16 ?_
    refine gx_imul X dX10_element_17 ?_
    refine gx_iload_n X 2 rfl dX10_element_18 ?_
    refine gx_iadd X dX10_element_19 ?_
    obtain ⟨q5, h⟩ := gdd_eq h
    refine gx_lald X (62) 360 (by decide) (cl_62 _ _) q5 dX10_element_20 ?_
    refine gx_goto X 27 dX10_element_21 (by decide) ?_
    obtain ⟨rfl, rfl⟩ := ret_eq h
    exact gx_lret X dX10_element_27
theorem dX10_feed_0 : decode cX10_feed 0 = .ok (.iload_n 1, 1) := by decide +kernel
theorem dX10_feed_1 : decode cX10_feed 1 = .ok (.i2l, 1) := by decide +kernel
theorem dX10_feed_2 : decode cX10_feed 2 = .ok (.lconst 0, 1) := by decide +kernel
theorem dX10_feed_3 : decode cX10_feed 3 = .ok (.ldc2_w 134, 3) := by decide +kernel
theorem dX10_feed_6 : decode cX10_feed 6 = .ok (.invokestatic 92, 3) := by decide +kernel
theorem dX10_feed_9 : decode cX10_feed 9 = .ok (.ifCond .ne 5, 3) := by decide +kernel
theorem dX10_feed_12 : decode cX10_feed 12 = .ok (.iconst (-1), 1) := by decide +kernel
theorem dX10_feed_13 : decode cX10_feed 13 = .ok (.ireturn, 1) := by decide +kernel
theorem dX10_feed_14 : decode cX10_feed 14 = .ok (.aload_n 0, 1) := by decide +kernel
theorem dX10_feed_15 : decode cX10_feed 15 = .ok (.getfield 136, 3) := by decide +kernel
theorem dX10_feed_18 : decode cX10_feed 18 = .ok (.bipush 120, 2) := by decide +kernel
theorem dX10_feed_20 : decode cX10_feed 20 = .ok (.if_icmp .ne 6, 3) := by decide +kernel
theorem dX10_feed_23 : decode cX10_feed 23 = .ok (.bipush (-3), 2) := by decide +kernel
theorem dX10_feed_25 : decode cX10_feed 25 = .ok (.ireturn, 1) := by decide +kernel
theorem dX10_feed_26 : decode cX10_feed 26 = .ok (.aload_n 0, 1) := by decide +kernel
theorem dX10_feed_27 : decode cX10_feed 27 = .ok (.getfield 43, 3) := by decide +kernel
theorem dX10_feed_30 : decode cX10_feed 30 = .ok (.aload_n 0, 1) := by decide +kernel
theorem dX10_feed_31 : decode cX10_feed 31 = .ok (.getfield 136, 3) := by decide +kernel
theorem dX10_feed_34 : decode cX10_feed 34 = .ok (.iload_n 1, 1) := by decide +kernel
theorem dX10_feed_35 : decode cX10_feed 35 = .ok (.iastore, 1) := by decide +kernel
theorem dX10_feed_36 : decode cX10_feed 36 = .ok (.aload_n 0, 1) := by decide +kernel
theorem dX10_feed_37 : decode cX10_feed 37 = .ok (.dup, 1) := by decide +kernel
theorem dX10_feed_38 : decode cX10_feed 38 = .ok (.getfield 136, 3) := by decide +kernel
theorem dX10_feed_41 : decode cX10_feed 41 = .ok (.iconst 1, 1) := by decide +kernel
theorem dX10_feed_42 : decode cX10_feed 42 = .ok (.iadd, 1) := by decide +kernel
theorem dX10_feed_43 : decode cX10_feed 43 = .ok (.putfield 136, 3) := by decide +kernel
theorem dX10_feed_46 : decode cX10_feed 46 = .ok (.aload_n 0, 1) := by decide +kernel
theorem dX10_feed_47 : decode cX10_feed 47 = .ok (.getfield 136, 3) := by decide +kernel
theorem dX10_feed_50 : decode cX10_feed 50 = .ok (.ireturn, 1) := by decide +kernel
def m_X10_feed (a1 : Int32) (g : Mm) : Option (Int32 × Mm) := bdd (m_X10_in (a1.toInt64) (0 : Int64) (255 : Int64) g) (fun ra1 ga2 => (if ra1 = (0 : Int32) then some ((-1 : Int32), ga2) else (if (rdI ga2 40 15) = (120 : Int32) then some ((-3 : Int32), ga2) else gdd (ixo (rdI ga2 40 15) 120) (some ((rdI (wrI (wrI ga2 49 (rdI ga2 40 15).toNatClampNeg a1) 40 15 ((rdI (wrI ga2 49 (rdI ga2 40 15).toNatClampNeg a1) 40 15) + (1 : Int32))) 40 15), (wrI (wrI ga2 49 (rdI ga2 40 15).toNatClampNeg a1) 40 15 ((rdI (wrI ga2 49 (rdI ga2 40 15).toNatClampNeg a1) 40 15) + (1 : Int32))))))))
set_option maxHeartbeats 2000000 in
theorem c_X10_feed {r2 : Int32} {g g2 : Mm} {a1 : Int32} (h : m_X10_feed a1 g = some (r2, g2)) : gx_M 2 yX10_feed cX10_feed 2 (some .int) (fun al => [.ref (al (40)), .int (a1)]) g (some (.int r2)) g2 := by
  have hd : 2 ≤ 2 := Nat.le_refl _
  refine gx_M.of (by decide +kernel) (fun _ => Nat.le_of_ble_eq_true rfl) ?_
  intro p l e R s m args below meth c D al cI cJ A X
  refine gx_eq (pc' := 0) (ls' := [(0, .ref (al (40))), (1, .int (a1))]) (st' := []) (g' := g) ⟨rfl, rfl, rfl, rfl⟩ ?_
  unfold m_X10_feed at h
  refine gx_iload_n X 1 rfl dX10_feed_0 ?_
  refine gx_i2l X dX10_feed_1 ?_
  refine gx_lconst X (v := (0 : Int64)) dX10_feed_2 (by decide) ?_
  refine gx_ldc2 X (v := (255 : Int64)) lk_X10_134 dX10_feed_3 ?_
  obtain ⟨ra1, ga2, ca3, h⟩ := bdd_eq h
  refine gx_callSi X (c_X10_in ca3) lc_X10_in li_X10_in lm_X10_92 rfl rfl (Nat.le_trans (by decide) hd) rfl (Nat.le_of_ble_eq_true rfl) dX10_feed_6 ?_
  refine gx_if_ne X 14 dX10_feed_9 (by decide) (fun q4 => ?_) (fun q4 => ?_)
  · replace h := (if_neg q4).symm.trans h
    refine gx_aload_n X 0 rfl dX10_feed_14 ?_
    refine gx_getf X (40) lf_X10_136 (by decide) (cl_40 _ _) (v := .int ((rdI ga2 40 15))) rfl dX10_feed_15 ?_
    refine gx_bipush X (v := (120 : Int32)) dX10_feed_18 (by decide) ?_
    refine gx_icmp_ne X 26 dX10_feed_20 (by decide) (fun q5 => ?_) (fun q5 => ?_)
    · replace h := (if_neg q5).symm.trans h
      refine gx_aload_n X 0 rfl dX10_feed_26 ?_
      refine gx_getf X (40) lf_X10_43 (by decide) (cl_40 _ _) (v := .ref (al (49))) rfl dX10_feed_27 ?_
      refine gx_aload_n X 0 rfl dX10_feed_30 ?_
      refine gx_getf X (40) lf_X10_136 (by decide) (cl_40 _ _) (v := .int ((rdI ga2 40 15))) rfl dX10_feed_31 ?_
      refine gx_iload_n X 1 rfl dX10_feed_34 ?_
      obtain ⟨q6, h⟩ := gdd_eq h
      refine gx_iast X (49) 120 (by decide) (fun r => cl_49 r _) q6 dX10_feed_35 ?_
      refine gx_aload_n X 0 rfl dX10_feed_36 ?_
      refine gx_dup X dX10_feed_37 rfl ?_
      refine gx_getf X (40) lf_X10_136 (by decide) (cl_40 _ _) (v := .int ((rdI (wrI ga2 49 (rdI ga2 40 15).toNatClampNeg a1) 40 15))) rfl dX10_feed_38 ?_
      refine gx_iconst X (v := (1 : Int32)) dX10_feed_41 (by decide) ?_
      refine gx_iadd X dX10_feed_42 ?_
      refine gx_putf X (40) ((rdI (wrI ga2 49 (rdI ga2 40 15).toNatClampNeg a1) 40 15) + (1 : Int32)) lf_X10_136 lp_X10_15 (by decide) (cl_40 _ _) (Nat.le_of_ble_eq_true rfl) rfl rfl rfl dX10_feed_43 ?_
      refine gx_aload_n X 0 rfl dX10_feed_46 ?_
      refine gx_getf X (40) lf_X10_136 (by decide) (cl_40 _ _) (v := .int ((rdI (wrI (wrI ga2 49 (rdI ga2 40 15).toNatClampNeg a1) 40 15 ((rdI (wrI ga2 49 (rdI ga2 40 15).toNatClampNeg a1) 40 15) + (1 : Int32))) 40 15))) rfl dX10_feed_47 ?_
      obtain ⟨rfl, rfl⟩ := ret_eq h
      exact gx_iret X rfl dX10_feed_50
    · replace h := (if_pos q5).symm.trans h
      refine gx_bipush X (v := (-3 : Int32)) dX10_feed_23 (by decide) ?_
      obtain ⟨rfl, rfl⟩ := ret_eq h
      exact gx_iret X rfl dX10_feed_25
  · replace h := (if_pos q4).symm.trans h
    refine gx_iconst X (v := (-1 : Int32)) dX10_feed_12 (by decide) ?_
    obtain ⟨rfl, rfl⟩ := ret_eq h
    exact gx_iret X rfl dX10_feed_13
theorem dX10_finds_0 : decode cX10_finds 0 = .ok (.aload_n 0, 1) := by decide +kernel
theorem dX10_finds_1 : decode cX10_finds 1 = .ok (.getfield 89, 3) := by decide +kernel
theorem dX10_finds_4 : decode cX10_finds 4 = .ok (.aload_n 0, 1) := by decide +kernel
theorem dX10_finds_5 : decode cX10_finds 5 = .ok (.invokevirtual 251, 3) := by decide +kernel
theorem dX10_finds_8 : decode cX10_finds 8 = .ok (.isub, 1) := by decide +kernel
theorem dX10_finds_9 : decode cX10_finds 9 = .ok (.iconst 1, 1) := by decide +kernel
theorem dX10_finds_10 : decode cX10_finds 10 = .ok (.iadd, 1) := by decide +kernel
theorem dX10_finds_11 : decode cX10_finds 11 = .ok (.istore 5, 2) := by decide +kernel
theorem dX10_finds_13 : decode cX10_finds 13 = .ok (.iconst 1, 1) := by decide +kernel
theorem dX10_finds_14 : decode cX10_finds 14 = .ok (.istore 6, 2) := by decide +kernel
theorem dX10_finds_16 : decode cX10_finds 16 = .ok (.iconst 0, 1) := by decide +kernel
theorem dX10_finds_17 : decode cX10_finds 17 = .ok (.istore 7, 2) := by decide +kernel
theorem dX10_finds_19 : decode cX10_finds 19 = .ok (.iload 7, 2) := by decide +kernel
theorem dX10_finds_21 : decode cX10_finds 21 = .ok (.aload_n 0, 1) := by decide +kernel
theorem dX10_finds_22 : decode cX10_finds 22 = .ok (.getfield 89, 3) := by decide +kernel
theorem dX10_finds_25 : decode cX10_finds 25 = .ok (.if_icmp .ge 23, 3) := by decide +kernel
theorem dX10_finds_28 : decode cX10_finds 28 = .ok (.iload 6, 2) := by decide +kernel
theorem dX10_finds_30 : decode cX10_finds 30 = .ok (.aload_n 0, 1) := by decide +kernel
theorem dX10_finds_31 : decode cX10_finds 31 = .ok (.getfield 9, 3) := by decide +kernel
theorem dX10_finds_34 : decode cX10_finds 34 = .ok (.iload 7, 2) := by decide +kernel
theorem dX10_finds_36 : decode cX10_finds 36 = .ok (.iaload, 1) := by decide +kernel
theorem dX10_finds_37 : decode cX10_finds 37 = .ok (.iconst 1, 1) := by decide +kernel
theorem dX10_finds_38 : decode cX10_finds 38 = .ok (.iadd, 1) := by decide +kernel
theorem dX10_finds_39 : decode cX10_finds 39 = .ok (.imul, 1) := by decide +kernel
theorem dX10_finds_40 : decode cX10_finds 40 = .ok (.istore 6, 2) := by decide +kernel
theorem dX10_finds_42 : decode cX10_finds 42 = .ok (.iinc 7 1, 3) := by decide +kernel
theorem dX10_finds_45 : decode cX10_finds 45 = .ok (.goto (-26), 3) := by decide +kernel
theorem dX10_finds_48 : decode cX10_finds 48 = .ok (.iconst 0, 1) := by decide +kernel
theorem dX10_finds_49 : decode cX10_finds 49 = .ok (.istore 7, 2) := by decide +kernel
theorem dX10_finds_51 : decode cX10_finds 51 = .ok (.iload 7, 2) := by decide +kernel
theorem dX10_finds_53 : decode cX10_finds 53 = .ok (.iload 6, 2) := by decide +kernel
theorem dX10_finds_55 : decode cX10_finds 55 = .ok (.if_icmp .ge 167, 3) := by decide +kernel
theorem dX10_finds_58 : decode cX10_finds 58 = .ok (.iload 7, 2) := by decide +kernel
theorem dX10_finds_60 : decode cX10_finds 60 = .ok (.istore 8, 2) := by decide +kernel
theorem dX10_finds_62 : decode cX10_finds 62 = .ok (.iconst 0, 1) := by decide +kernel
theorem dX10_finds_63 : decode cX10_finds 63 = .ok (.istore 9, 2) := by decide +kernel
theorem dX10_finds_65 : decode cX10_finds 65 = .ok (.aload_n 0, 1) := by decide +kernel
theorem dX10_finds_66 : decode cX10_finds 66 = .ok (.getfield 89, 3) := by decide +kernel
theorem dX10_finds_69 : decode cX10_finds 69 = .ok (.iconst 1, 1) := by decide +kernel
theorem dX10_finds_70 : decode cX10_finds 70 = .ok (.isub, 1) := by decide +kernel
theorem dX10_finds_71 : decode cX10_finds 71 = .ok (.istore 10, 2) := by decide +kernel
theorem dX10_finds_73 : decode cX10_finds 73 = .ok (.iload 10, 2) := by decide +kernel
theorem dX10_finds_75 : decode cX10_finds 75 = .ok (.ifCond .lt 64, 3) := by decide +kernel
theorem dX10_finds_78 : decode cX10_finds 78 = .ok (.aload_n 0, 1) := by decide +kernel
theorem dX10_finds_79 : decode cX10_finds 79 = .ok (.getfield 28, 3) := by decide +kernel
theorem dX10_finds_82 : decode cX10_finds 82 = .ok (.bipush 6, 2) := by decide +kernel
theorem dX10_finds_84 : decode cX10_finds 84 = .ok (.iload_n 1, 1) := by decide +kernel
theorem dX10_finds_85 : decode cX10_finds 85 = .ok (.imul, 1) := by decide +kernel
theorem dX10_finds_86 : decode cX10_finds 86 = .ok (.iload 10, 2) := by decide +kernel
theorem dX10_finds_88 : decode cX10_finds 88 = .ok (.iadd, 1) := by decide +kernel
theorem dX10_finds_89 : decode cX10_finds 89 = .ok (.iload 8, 2) := by decide +kernel
theorem dX10_finds_91 : decode cX10_finds 91 = .ok (.aload_n 0, 1) := by decide +kernel
theorem dX10_finds_92 : decode cX10_finds 92 = .ok (.getfield 9, 3) := by decide +kernel
theorem dX10_finds_95 : decode cX10_finds 95 = .ok (.iload 10, 2) := by decide +kernel
theorem dX10_finds_97 : decode cX10_finds 97 = .ok (.iaload, 1) := by decide +kernel
theorem dX10_finds_98 : decode cX10_finds 98 = .ok (.iconst 1, 1) := by decide +kernel
theorem dX10_finds_99 : decode cX10_finds 99 = .ok (.iadd, 1) := by decide +kernel
theorem dX10_finds_100 : decode cX10_finds 100 = .ok (.irem, 1) := by decide +kernel
theorem dX10_finds_101 : decode cX10_finds 101 = .ok (.iastore, 1) := by decide +kernel
theorem dX10_finds_102 : decode cX10_finds 102 = .ok (.iload 9, 2) := by decide +kernel
theorem dX10_finds_104 : decode cX10_finds 104 = .ok (.aload_n 0, 1) := by decide +kernel
theorem dX10_finds_105 : decode cX10_finds 105 = .ok (.getfield 28, 3) := by decide +kernel
theorem dX10_finds_108 : decode cX10_finds 108 = .ok (.bipush 6, 2) := by decide +kernel
theorem dX10_finds_110 : decode cX10_finds 110 = .ok (.iload_n 1, 1) := by decide +kernel
theorem dX10_finds_111 : decode cX10_finds 111 = .ok (.imul, 1) := by decide +kernel
theorem dX10_finds_112 : decode cX10_finds 112 = .ok (.iload 10, 2) := by decide +kernel
theorem dX10_finds_114 : decode cX10_finds 114 = .ok (.iadd, 1) := by decide +kernel
theorem dX10_finds_115 : decode cX10_finds 115 = .ok (.iaload, 1) := by decide +kernel
theorem dX10_finds_116 : decode cX10_finds 116 = .ok (.iadd, 1) := by decide +kernel
theorem dX10_finds_117 : decode cX10_finds 117 = .ok (.istore 9, 2) := by decide +kernel
theorem dX10_finds_119 : decode cX10_finds 119 = .ok (.iload 8, 2) := by decide +kernel
theorem dX10_finds_121 : decode cX10_finds 121 = .ok (.aload_n 0, 1) := by decide +kernel
theorem dX10_finds_122 : decode cX10_finds 122 = .ok (.getfield 9, 3) := by decide +kernel
theorem dX10_finds_125 : decode cX10_finds 125 = .ok (.iload 10, 2) := by decide +kernel
theorem dX10_finds_127 : decode cX10_finds 127 = .ok (.iaload, 1) := by decide +kernel
theorem dX10_finds_128 : decode cX10_finds 128 = .ok (.iconst 1, 1) := by decide +kernel
theorem dX10_finds_129 : decode cX10_finds 129 = .ok (.iadd, 1) := by decide +kernel
theorem dX10_finds_130 : decode cX10_finds 130 = .ok (.idiv, 1) := by decide +kernel
theorem dX10_finds_131 : decode cX10_finds 131 = .ok (.istore 8, 2) := by decide +kernel
theorem dX10_finds_133 : decode cX10_finds 133 = .ok (.iinc 10 (-1), 3) := by decide +kernel
theorem dX10_finds_136 : decode cX10_finds 136 = .ok (.goto (-63), 3) := by decide +kernel
theorem dX10_finds_139 : decode cX10_finds 139 = .ok (.iload 9, 2) := by decide +kernel
theorem dX10_finds_141 : decode cX10_finds 141 = .ok (.iload_n 2, 1) := by decide +kernel
theorem dX10_finds_142 : decode cX10_finds 142 = .ok (.if_icmp .ne 7, 3) := by decide +kernel
theorem dX10_finds_145 : decode cX10_finds 145 = .ok (.iconst 1, 1) := by decide +kernel
theorem dX10_finds_146 : decode cX10_finds 146 = .ok (.goto 4, 3) := by decide +kernel
theorem dX10_finds_149 : decode cX10_finds 149 = .ok (.iconst 0, 1) := by decide +kernel
theorem dX10_finds_150 : decode cX10_finds 150 = .ok (.istore 10, 2) := by decide +kernel
theorem dX10_finds_152 : decode cX10_finds 152 = .ok (.iconst 0, 1) := by decide +kernel
theorem dX10_finds_153 : decode cX10_finds 153 = .ok (.istore 11, 2) := by decide +kernel
theorem dX10_finds_155 : decode cX10_finds 155 = .ok (.iload 11, 2) := by decide +kernel
theorem dX10_finds_157 : decode cX10_finds 157 = .ok (.iload_n 3, 1) := by decide +kernel
theorem dX10_finds_158 : decode cX10_finds 158 = .ok (.if_icmp .ge 51, 3) := by decide +kernel
theorem dX10_finds_161 : decode cX10_finds 161 = .ok (.iload 10, 2) := by decide +kernel
theorem dX10_finds_163 : decode cX10_finds 163 = .ok (.ifCond .eq 46, 3) := by decide +kernel
theorem dX10_finds_166 : decode cX10_finds 166 = .ok (.iload 4, 2) := by decide +kernel
theorem dX10_finds_168 : decode cX10_finds 168 = .ok (.ifCond .ne 13, 3) := by decide +kernel
theorem dX10_finds_171 : decode cX10_finds 171 = .ok (.aload_n 0, 1) := by decide +kernel
theorem dX10_finds_172 : decode cX10_finds 172 = .ok (.iload 11, 2) := by decide +kernel
theorem dX10_finds_174 : decode cX10_finds 174 = .ok (.iload_n 1, 1) := by decide +kernel
theorem dX10_finds_175 : decode cX10_finds 175 = .ok (.invokevirtual 232, 3) := by decide +kernel
theorem dX10_finds_178 : decode cX10_finds 178 = .ok (.ifCond .ne 18, 3) := by decide +kernel
theorem dX10_finds_181 : decode cX10_finds 181 = .ok (.aload_n 0, 1) := by decide +kernel
theorem dX10_finds_182 : decode cX10_finds 182 = .ok (.iload 11, 2) := by decide +kernel
theorem dX10_finds_184 : decode cX10_finds 184 = .ok (.iload_n 1, 1) := by decide +kernel
theorem dX10_finds_185 : decode cX10_finds 185 = .ok (.invokevirtual 236, 3) := by decide +kernel
theorem dX10_finds_188 : decode cX10_finds 188 = .ok (.invokestatic 229, 3) := by decide +kernel
theorem dX10_finds_191 : decode cX10_finds 191 = .ok (.iload 5, 2) := by decide +kernel
theorem dX10_finds_193 : decode cX10_finds 193 = .ok (.if_icmp .lt 7, 3) := by decide +kernel
theorem dX10_finds_196 : decode cX10_finds 196 = .ok (.iconst 1, 1) := by decide +kernel
theorem dX10_finds_197 : decode cX10_finds 197 = .ok (.goto 4, 3) := by decide +kernel
theorem dX10_finds_200 : decode cX10_finds 200 = .ok (.iconst 0, 1) := by decide +kernel
theorem dX10_finds_201 : decode cX10_finds 201 = .ok (.istore 10, 2) := by decide +kernel
theorem dX10_finds_203 : decode cX10_finds 203 = .ok (.iinc 11 1, 3) := by decide +kernel
theorem dX10_finds_206 : decode cX10_finds 206 = .ok (.goto (-51), 3) := by decide +kernel
theorem dX10_finds_209 : decode cX10_finds 209 = .ok (.iload 10, 2) := by decide +kernel
theorem dX10_finds_211 : decode cX10_finds 211 = .ok (.ifCond .eq 5, 3) := by decide +kernel
theorem dX10_finds_214 : decode cX10_finds 214 = .ok (.iconst 1, 1) := by decide +kernel
theorem dX10_finds_215 : decode cX10_finds 215 = .ok (.ireturn, 1) := by decide +kernel
theorem dX10_finds_216 : decode cX10_finds 216 = .ok (.iinc 7 1, 3) := by decide +kernel
theorem dX10_finds_219 : decode cX10_finds 219 = .ok (.goto (-168), 3) := by decide +kernel
theorem dX10_finds_222 : decode cX10_finds 222 = .ok (.iconst 0, 1) := by decide +kernel
theorem dX10_finds_223 : decode cX10_finds 223 = .ok (.ireturn, 1) := by decide +kernel
def m_X10_finds_181 (K155 : Int32 → Int32 → Int32 → Int32 → Int32 → Int32 → Int32 → Int32 → Int32 → Mm → Option (Int32 × Mm)) (x1 : Int32) (x2 : Int32) (x3 : Int32) (x4 : Int32) (x5 : Int32) (x6 : Int32) (x7 : Int32) (x11 : Int32) (g : Mm) : Option (Int32 × Mm) := bdd (m_X10_differ x11 x1 g) (fun ra1 ga2 => bdd (m_X10_bitsOf ra1 ga2) (fun ra4 ga5 => (if ra4 < x5 then K155 x1 x2 x3 x4 x5 x6 x7 (0 : Int32) (x11 + (1 : Int32)) ga5 else K155 x1 x2 x3 x4 x5 x6 x7 (1 : Int32) (x11 + (1 : Int32)) ga5)))
set_option maxHeartbeats 2000000 in
theorem t_X10_finds_181 {r2 : Int32} {g2 : Mm} (X : gx_X p R s m args meth c D al cI cJ A RX10 cX10_finds 12 (some .boolean) d 0 0) (hd : 2 ≤ d) {K155 : Int32 → Int32 → Int32 → Int32 → Int32 → Int32 → Int32 → Int32 → Int32 → Mm → Option (Int32 × Mm)} (hK155 : ∀ (u0 : Int32) (u1 : Int32) (u2 : Int32) (u3 : Int32) (u4 : Int32) (u5 : Int32) (u6 : Int32) (u7 : Int32) (u8 : Int32) (g : Mm), K155 u0 u1 u2 u3 u4 u5 u6 u7 u8 g = some (r2, g2) → gx_G p l e R s m args below meth c (gx_Q below args s D al cI cJ A (some (.int r2)) g2) D al cI cJ A 12 0 0 155 [(0, .ref (al (40))), (1, .int (u0)), (2, .int (u1)), (3, .int (u2)), (4, .int (u3)), (5, .int (u4)), (6, .int (u5)), (7, .int (u6)), (10, .int (u7)), (11, .int (u8))] [] g) : ∀ (x1 : Int32) (x2 : Int32) (x3 : Int32) (x4 : Int32) (x5 : Int32) (x6 : Int32) (x7 : Int32) (x11 : Int32) (g : Mm), m_X10_finds_181 K155 x1 x2 x3 x4 x5 x6 x7 x11 g = some (r2, g2) → gx_G p l e R s m args below meth c (gx_Q below args s D al cI cJ A (some (.int r2)) g2) D al cI cJ A 12 0 0 181 [(0, .ref (al (40))), (1, .int (x1)), (2, .int (x2)), (3, .int (x3)), (4, .int (x4)), (5, .int (x5)), (6, .int (x6)), (7, .int (x7)), (11, .int (x11))] [] g := by
  intro x1 x2 x3 x4 x5 x6 x7 x11 g h
  unfold m_X10_finds_181 at h
  refine gx_aload_n X 0 rfl dX10_finds_181 ?_
  refine gx_iload X 8 rfl dX10_finds_182 ?_
  refine gx_iload_n X 1 rfl dX10_finds_184 ?_
  obtain ⟨ra1, ga2, ca3, h⟩ := bdd_eq h
  refine gx_callVi X (40) (c_X10_differ ca3) lc_X10_differ li_X10_differ lm_X10_236 (by decide) (cl_40 _ _) rfl rfl rfl (Nat.le_trans (by decide) hd) rfl (Nat.le_of_ble_eq_true rfl) dX10_finds_185 ?_
  obtain ⟨ra4, ga5, ca6, h⟩ := bdd_eq h
  refine gx_callSi X (c_X10_bitsOf ca6) lc_X10_bitsOf li_X10_bitsOf lm_X10_229 rfl rfl (Nat.le_trans (by decide) hd) rfl (Nat.le_of_ble_eq_true rfl) dX10_finds_188 ?_
  refine gx_iload X 5 rfl dX10_finds_191 ?_
  refine gx_icmp_lt X 200 dX10_finds_193 (by decide) (fun q7 => ?_) (fun q7 => ?_)
  · replace h := (if_pos q7).symm.trans h
    refine gx_iconst X (v := (0 : Int32)) dX10_finds_200 (by decide) ?_
    refine gx_istore X [(10, .int ((0 : Int32))), (0, .ref (al (40))), (1, .int (x1)), (2, .int (x2)), (3, .int (x3)), (4, .int (x4)), (5, .int (x5)), (6, .int (x6)), (7, .int (x7)), (11, .int (x11))] dX10_finds_201 (by decide) rfl ?_
    refine gx_iinc X [(11, .int ((x11 + (1 : Int32)))), (10, .int ((0 : Int32))), (0, .ref (al (40))), (1, .int (x1)), (2, .int (x2)), (3, .int (x3)), (4, .int (x4)), (5, .int (x5)), (6, .int (x6)), (7, .int (x7))] 9 dX10_finds_203 rfl rfl (by decide) rfl ?_
    refine gx_goto X 155 dX10_finds_206 (by decide) ?_
    exact gx_sub [2, 3, 4, 5, 6, 7, 8, 9, 1, 0] rfl (hK155 x1 x2 x3 x4 x5 x6 x7 (0 : Int32) (x11 + (1 : Int32)) ga5 h)
  · replace h := (if_neg q7).symm.trans h
    refine gx_iconst X (v := (1 : Int32)) dX10_finds_196 (by decide) ?_
    refine gx_goto X 201 dX10_finds_197 (by decide) ?_
    refine gx_istore X [(10, .int ((1 : Int32))), (0, .ref (al (40))), (1, .int (x1)), (2, .int (x2)), (3, .int (x3)), (4, .int (x4)), (5, .int (x5)), (6, .int (x6)), (7, .int (x7)), (11, .int (x11))] dX10_finds_201 (by decide) rfl ?_
    refine gx_iinc X [(11, .int ((x11 + (1 : Int32)))), (10, .int ((1 : Int32))), (0, .ref (al (40))), (1, .int (x1)), (2, .int (x2)), (3, .int (x3)), (4, .int (x4)), (5, .int (x5)), (6, .int (x6)), (7, .int (x7))] 9 dX10_finds_203 rfl rfl (by decide) rfl ?_
    refine gx_goto X 155 dX10_finds_206 (by decide) ?_
    exact gx_sub [2, 3, 4, 5, 6, 7, 8, 9, 1, 0] rfl (hK155 x1 x2 x3 x4 x5 x6 x7 (1 : Int32) (x11 + (1 : Int32)) ga5 h)
def m_X10_finds_209 (K51 : Int32 → Int32 → Int32 → Int32 → Int32 → Int32 → Int32 → Mm → Option (Int32 × Mm)) (x1 : Int32) (x2 : Int32) (x3 : Int32) (x4 : Int32) (x5 : Int32) (x6 : Int32) (x7 : Int32) (x10 : Int32) (g : Mm) : Option (Int32 × Mm) := (if x10 = (0 : Int32) then K51 x1 x2 x3 x4 x5 x6 (x7 + (1 : Int32)) g else some ((1 : Int32), g))
set_option maxHeartbeats 2000000 in
theorem t_X10_finds_209 {r2 : Int32} {g2 : Mm} (X : gx_X p R s m args meth c D al cI cJ A RX10 cX10_finds 12 (some .boolean) d 0 0) (hd : 2 ≤ d) {K51 : Int32 → Int32 → Int32 → Int32 → Int32 → Int32 → Int32 → Mm → Option (Int32 × Mm)} (hK51 : ∀ (u0 : Int32) (u1 : Int32) (u2 : Int32) (u3 : Int32) (u4 : Int32) (u5 : Int32) (u6 : Int32) (g : Mm), K51 u0 u1 u2 u3 u4 u5 u6 g = some (r2, g2) → gx_G p l e R s m args below meth c (gx_Q below args s D al cI cJ A (some (.int r2)) g2) D al cI cJ A 12 0 0 51 [(0, .ref (al (40))), (1, .int (u0)), (2, .int (u1)), (3, .int (u2)), (4, .int (u3)), (5, .int (u4)), (6, .int (u5)), (7, .int (u6))] [] g) : ∀ (x1 : Int32) (x2 : Int32) (x3 : Int32) (x4 : Int32) (x5 : Int32) (x6 : Int32) (x7 : Int32) (x10 : Int32) (g : Mm), m_X10_finds_209 K51 x1 x2 x3 x4 x5 x6 x7 x10 g = some (r2, g2) → gx_G p l e R s m args below meth c (gx_Q below args s D al cI cJ A (some (.int r2)) g2) D al cI cJ A 12 0 0 209 [(0, .ref (al (40))), (1, .int (x1)), (2, .int (x2)), (3, .int (x3)), (4, .int (x4)), (5, .int (x5)), (6, .int (x6)), (7, .int (x7)), (10, .int (x10))] [] g := by
  intro x1 x2 x3 x4 x5 x6 x7 x10 g h
  unfold m_X10_finds_209 at h
  refine gx_iload X 8 rfl dX10_finds_209 ?_
  refine gx_if_eq X 216 dX10_finds_211 (by decide) (fun q1 => ?_) (fun q1 => ?_)
  · replace h := (if_pos q1).symm.trans h
    refine gx_iinc X [(7, .int ((x7 + (1 : Int32)))), (0, .ref (al (40))), (1, .int (x1)), (2, .int (x2)), (3, .int (x3)), (4, .int (x4)), (5, .int (x5)), (6, .int (x6)), (10, .int (x10))] 7 dX10_finds_216 rfl rfl (by decide) rfl ?_
    refine gx_goto X 51 dX10_finds_219 (by decide) ?_
    exact gx_sub [1, 2, 3, 4, 5, 6, 7, 0] rfl (hK51 x1 x2 x3 x4 x5 x6 (x7 + (1 : Int32)) g h)
  · replace h := (if_neg q1).symm.trans h
    refine gx_iconst X (v := (1 : Int32)) dX10_finds_214 (by decide) ?_
    obtain ⟨rfl, rfl⟩ := ret_eq h
    exact gx_iret X rfl dX10_finds_215
def m_X10_finds_155 (K51 : Int32 → Int32 → Int32 → Int32 → Int32 → Int32 → Int32 → Mm → Option (Int32 × Mm)) : Nat → Int32 → Int32 → Int32 → Int32 → Int32 → Int32 → Int32 → Int32 → Int32 → Mm → Option (Int32 × Mm)
  | 0, _, _, _, _, _, _, _, _, _, _ => none
  | n + 1, x1, x2, x3, x4, x5, x6, x7, x10, x11, g => (if x3 ≤ x11 then m_X10_finds_209 (K51) x1 x2 x3 x4 x5 x6 x7 x10 g else (if x10 = (0 : Int32) then m_X10_finds_209 (K51) x1 x2 x3 x4 x5 x6 x7 x10 g else (if x4 = (0 : Int32) then bdd (m_X10_areMixed x11 x1 g) (fun ra4 ga5 => (if ra4 = (0 : Int32) then m_X10_finds_181 (m_X10_finds_155 K51 n) x1 x2 x3 x4 x5 x6 x7 x11 ga5 else m_X10_finds_155 K51 n x1 x2 x3 x4 x5 x6 x7 (1 : Int32) (x11 + (1 : Int32)) ga5)) else m_X10_finds_181 (m_X10_finds_155 K51 n) x1 x2 x3 x4 x5 x6 x7 x11 g)))
set_option maxHeartbeats 2000000 in
theorem t_X10_finds_155 {r2 : Int32} {g2 : Mm} (X : gx_X p R s m args meth c D al cI cJ A RX10 cX10_finds 12 (some .boolean) d 0 0) (hd : 2 ≤ d) {K51 : Int32 → Int32 → Int32 → Int32 → Int32 → Int32 → Int32 → Mm → Option (Int32 × Mm)} (hK51 : ∀ (u0 : Int32) (u1 : Int32) (u2 : Int32) (u3 : Int32) (u4 : Int32) (u5 : Int32) (u6 : Int32) (g : Mm), K51 u0 u1 u2 u3 u4 u5 u6 g = some (r2, g2) → gx_G p l e R s m args below meth c (gx_Q below args s D al cI cJ A (some (.int r2)) g2) D al cI cJ A 12 0 0 51 [(0, .ref (al (40))), (1, .int (u0)), (2, .int (u1)), (3, .int (u2)), (4, .int (u3)), (5, .int (u4)), (6, .int (u5)), (7, .int (u6))] [] g) : ∀ (n : Nat) (x1 : Int32) (x2 : Int32) (x3 : Int32) (x4 : Int32) (x5 : Int32) (x6 : Int32) (x7 : Int32) (x10 : Int32) (x11 : Int32) (g : Mm), m_X10_finds_155 K51 n x1 x2 x3 x4 x5 x6 x7 x10 x11 g = some (r2, g2) → gx_G p l e R s m args below meth c (gx_Q below args s D al cI cJ A (some (.int r2)) g2) D al cI cJ A 12 0 0 155 [(0, .ref (al (40))), (1, .int (x1)), (2, .int (x2)), (3, .int (x3)), (4, .int (x4)), (5, .int (x5)), (6, .int (x6)), (7, .int (x7)), (10, .int (x10)), (11, .int (x11))] [] g := by
  intro n
  induction n with
  | zero => intro x1 x2 x3 x4 x5 x6 x7 x10 x11 g h; cases h
  | succ n ih =>
    intro x1 x2 x3 x4 x5 x6 x7 x10 x11 g h
    rw [m_X10_finds_155] at h
    refine gx_iload X 9 rfl dX10_finds_155 ?_
    refine gx_iload_n X 3 rfl dX10_finds_157 ?_
    refine gx_icmp_ge X 209 dX10_finds_158 (by decide) (fun q1 => ?_) (fun q1 => ?_)
    · replace h := (if_pos q1).symm.trans h
      exact gx_sub [0, 1, 2, 3, 4, 5, 6, 7, 8] rfl (t_X10_finds_209 X hd (fun u0 u1 u2 u3 u4 u5 u6 g h => hK51 u0 u1 u2 u3 u4 u5 u6 g h) x1 x2 x3 x4 x5 x6 x7 x10 g h)
    · replace h := (if_neg q1).symm.trans h
      refine gx_iload X 8 rfl dX10_finds_161 ?_
      refine gx_if_eq X 209 dX10_finds_163 (by decide) (fun q2 => ?_) (fun q2 => ?_)
      · replace h := (if_pos q2).symm.trans h
        exact gx_sub [0, 1, 2, 3, 4, 5, 6, 7, 8] rfl (t_X10_finds_209 X hd (fun u0 u1 u2 u3 u4 u5 u6 g h => hK51 u0 u1 u2 u3 u4 u5 u6 g h) x1 x2 x3 x4 x5 x6 x7 x10 g h)
      · replace h := (if_neg q2).symm.trans h
        refine gx_iload X 4 rfl dX10_finds_166 ?_
        refine gx_if_ne X 181 dX10_finds_168 (by decide) (fun q3 => ?_) (fun q3 => ?_)
        · replace h := (if_neg q3).symm.trans h
          exact gx_sub [0, 1, 2, 3, 4, 5, 6, 7, 9] rfl (t_X10_finds_181 X hd (fun u0 u1 u2 u3 u4 u5 u6 u7 u8 g h => ih u0 u1 u2 u3 u4 u5 u6 u7 u8 g h) x1 x2 x3 x4 x5 x6 x7 x11 g h)
        · replace h := (if_pos q3).symm.trans h
          refine gx_aload_n X 0 rfl dX10_finds_171 ?_
          refine gx_iload X 9 rfl dX10_finds_172 ?_
          refine gx_iload_n X 1 rfl dX10_finds_174 ?_
          obtain ⟨ra4, ga5, ca6, h⟩ := bdd_eq h
          refine gx_callVi X (40) (c_X10_areMixed ca6) lc_X10_areMixed li_X10_areMixed lm_X10_232 (by decide) (cl_40 _ _) rfl rfl rfl (Nat.le_trans (by decide) hd) rfl (Nat.le_of_ble_eq_true rfl) dX10_finds_175 ?_
          refine gx_if_ne X 196 dX10_finds_178 (by decide) (fun q7 => ?_) (fun q7 => ?_)
          · replace h := (if_neg q7).symm.trans h
            refine gx_iconst X (v := (1 : Int32)) dX10_finds_196 (by decide) ?_
            refine gx_goto X 201 dX10_finds_197 (by decide) ?_
            refine gx_istore X [(10, .int ((1 : Int32))), (0, .ref (al (40))), (1, .int (x1)), (2, .int (x2)), (3, .int (x3)), (4, .int (x4)), (5, .int (x5)), (6, .int (x6)), (7, .int (x7)), (11, .int (x11))] dX10_finds_201 (by decide) rfl ?_
            refine gx_iinc X [(11, .int ((x11 + (1 : Int32)))), (10, .int ((1 : Int32))), (0, .ref (al (40))), (1, .int (x1)), (2, .int (x2)), (3, .int (x3)), (4, .int (x4)), (5, .int (x5)), (6, .int (x6)), (7, .int (x7))] 9 dX10_finds_203 rfl rfl (by decide) rfl ?_
            refine gx_goto X 155 dX10_finds_206 (by decide) ?_
            exact gx_sub [2, 3, 4, 5, 6, 7, 8, 9, 1, 0] rfl (ih x1 x2 x3 x4 x5 x6 x7 (1 : Int32) (x11 + (1 : Int32)) ga5 h)
          · replace h := (if_pos q7).symm.trans h
            exact gx_sub [0, 1, 2, 3, 4, 5, 6, 7, 9] rfl (t_X10_finds_181 X hd (fun u0 u1 u2 u3 u4 u5 u6 u7 u8 g h => ih u0 u1 u2 u3 u4 u5 u6 u7 u8 g h) x1 x2 x3 x4 x5 x6 x7 x11 ga5 h)
def m_X10_finds_73 (K51 : Int32 → Int32 → Int32 → Int32 → Int32 → Int32 → Int32 → Mm → Option (Int32 × Mm)) : Nat → Int32 → Int32 → Int32 → Int32 → Int32 → Int32 → Int32 → Int32 → Int32 → Int32 → Mm → Option (Int32 × Mm)
  | 0, _, _, _, _, _, _, _, _, _, _, _ => none
  | n + 1, x1, x2, x3, x4, x5, x6, x7, x8, x9, x10, g => (if x10 < (0 : Int32) then (if x9 = x2 then m_X10_finds_155 (K51) fuL x1 x2 x3 x4 x5 x6 x7 (1 : Int32) (0 : Int32) g else m_X10_finds_155 (K51) fuL x1 x2 x3 x4 x5 x6 x7 (0 : Int32) (0 : Int32) g) else gdd (ixo x10 6) (gdd (decide (¬ ((rdI g 41 x10.toNatClampNeg) + (1 : Int32)) = 0)) (gdd (ixo (((6 : Int32) * x1) + x10) 144) (gdd (ixo (((6 : Int32) * x1) + x10) 144) (lti (x9 + (rdI (wrI g 44 (((6 : Int32) * x1) + x10).toNatClampNeg (rmI x8 ((rdI g 41 x10.toNatClampNeg) + (1 : Int32)))) 44 (((6 : Int32) * x1) + x10).toNatClampNeg)) (fun v7 => gdd (ixo x10 6) (gdd (decide (¬ ((rdI (wrI g 44 (((6 : Int32) * x1) + x10).toNatClampNeg (rmI x8 ((rdI g 41 x10.toNatClampNeg) + (1 : Int32)))) 41 x10.toNatClampNeg) + (1 : Int32)) = 0)) (lti (x8 / ((rdI (wrI g 44 (((6 : Int32) * x1) + x10).toNatClampNeg (rmI x8 ((rdI g 41 x10.toNatClampNeg) + (1 : Int32)))) 41 x10.toNatClampNeg) + (1 : Int32))) (fun v10 => m_X10_finds_73 K51 n x1 x2 x3 x4 x5 x6 x7 v10 v7 (x10 + (-1 : Int32)) (wrI g 44 (((6 : Int32) * x1) + x10).toNatClampNeg (rmI x8 ((rdI g 41 x10.toNatClampNeg) + (1 : Int32)))))))))))))
set_option maxHeartbeats 2000000 in
theorem t_X10_finds_73 {r2 : Int32} {g2 : Mm} (X : gx_X p R s m args meth c D al cI cJ A RX10 cX10_finds 12 (some .boolean) d 0 0) (hd : 2 ≤ d) {K51 : Int32 → Int32 → Int32 → Int32 → Int32 → Int32 → Int32 → Mm → Option (Int32 × Mm)} (hK51 : ∀ (u0 : Int32) (u1 : Int32) (u2 : Int32) (u3 : Int32) (u4 : Int32) (u5 : Int32) (u6 : Int32) (g : Mm), K51 u0 u1 u2 u3 u4 u5 u6 g = some (r2, g2) → gx_G p l e R s m args below meth c (gx_Q below args s D al cI cJ A (some (.int r2)) g2) D al cI cJ A 12 0 0 51 [(0, .ref (al (40))), (1, .int (u0)), (2, .int (u1)), (3, .int (u2)), (4, .int (u3)), (5, .int (u4)), (6, .int (u5)), (7, .int (u6))] [] g) : ∀ (n : Nat) (x1 : Int32) (x2 : Int32) (x3 : Int32) (x4 : Int32) (x5 : Int32) (x6 : Int32) (x7 : Int32) (x8 : Int32) (x9 : Int32) (x10 : Int32) (g : Mm), m_X10_finds_73 K51 n x1 x2 x3 x4 x5 x6 x7 x8 x9 x10 g = some (r2, g2) → gx_G p l e R s m args below meth c (gx_Q below args s D al cI cJ A (some (.int r2)) g2) D al cI cJ A 12 0 0 73 [(0, .ref (al (40))), (1, .int (x1)), (2, .int (x2)), (3, .int (x3)), (4, .int (x4)), (5, .int (x5)), (6, .int (x6)), (7, .int (x7)), (8, .int (x8)), (9, .int (x9)), (10, .int (x10))] [] g := by
  intro n
  induction n with
  | zero => intro x1 x2 x3 x4 x5 x6 x7 x8 x9 x10 g h; cases h
  | succ n ih =>
    intro x1 x2 x3 x4 x5 x6 x7 x8 x9 x10 g h
    rw [m_X10_finds_73] at h
    refine gx_iload X 10 rfl dX10_finds_73 ?_
    refine gx_if_lt X 139 dX10_finds_75 (by decide) (fun q1 => ?_) (fun q1 => ?_)
    · replace h := (if_pos q1).symm.trans h
      refine gx_iload X 9 rfl dX10_finds_139 ?_
      refine gx_iload_n X 2 rfl dX10_finds_141 ?_
      refine gx_icmp_ne X 149 dX10_finds_142 (by decide) (fun q2 => ?_) (fun q2 => ?_)
      · replace h := (if_neg q2).symm.trans h
        refine gx_iconst X (v := (0 : Int32)) dX10_finds_149 (by decide) ?_
        refine gx_istore X [(10, .int ((0 : Int32))), (0, .ref (al (40))), (1, .int (x1)), (2, .int (x2)), (3, .int (x3)), (4, .int (x4)), (5, .int (x5)), (6, .int (x6)), (7, .int (x7)), (8, .int (x8)), (9, .int (x9))] dX10_finds_150 (by decide) rfl ?_
        refine gx_iconst X (v := (0 : Int32)) dX10_finds_152 (by decide) ?_
        refine gx_istore X [(11, .int ((0 : Int32))), (10, .int ((0 : Int32))), (0, .ref (al (40))), (1, .int (x1)), (2, .int (x2)), (3, .int (x3)), (4, .int (x4)), (5, .int (x5)), (6, .int (x6)), (7, .int (x7)), (8, .int (x8)), (9, .int (x9))] dX10_finds_153 (by decide) rfl ?_
        exact gx_sub [2, 3, 4, 5, 6, 7, 8, 9, 1, 0] rfl (t_X10_finds_155 X hd (fun u0 u1 u2 u3 u4 u5 u6 g h => hK51 u0 u1 u2 u3 u4 u5 u6 g h) fuL x1 x2 x3 x4 x5 x6 x7 (0 : Int32) (0 : Int32) g h)
      · replace h := (if_pos q2).symm.trans h
        refine gx_iconst X (v := (1 : Int32)) dX10_finds_145 (by decide) ?_
        refine gx_goto X 150 dX10_finds_146 (by decide) ?_
        refine gx_istore X [(10, .int ((1 : Int32))), (0, .ref (al (40))), (1, .int (x1)), (2, .int (x2)), (3, .int (x3)), (4, .int (x4)), (5, .int (x5)), (6, .int (x6)), (7, .int (x7)), (8, .int (x8)), (9, .int (x9))] dX10_finds_150 (by decide) rfl ?_
        refine gx_iconst X (v := (0 : Int32)) dX10_finds_152 (by decide) ?_
        refine gx_istore X [(11, .int ((0 : Int32))), (10, .int ((1 : Int32))), (0, .ref (al (40))), (1, .int (x1)), (2, .int (x2)), (3, .int (x3)), (4, .int (x4)), (5, .int (x5)), (6, .int (x6)), (7, .int (x7)), (8, .int (x8)), (9, .int (x9))] dX10_finds_153 (by decide) rfl ?_
        exact gx_sub [2, 3, 4, 5, 6, 7, 8, 9, 1, 0] rfl (t_X10_finds_155 X hd (fun u0 u1 u2 u3 u4 u5 u6 g h => hK51 u0 u1 u2 u3 u4 u5 u6 g h) fuL x1 x2 x3 x4 x5 x6 x7 (1 : Int32) (0 : Int32) g h)
    · replace h := (if_neg q1).symm.trans h
      refine gx_aload_n X 0 rfl dX10_finds_78 ?_
      refine gx_getf X (40) lf_X10_28 (by decide) (cl_40 _ _) (v := .ref (al (44))) rfl dX10_finds_79 ?_
      refine gx_bipush X (v := (6 : Int32)) dX10_finds_82 (by decide) ?_
      refine gx_iload_n X 1 rfl dX10_finds_84 ?_
      refine gx_imul X dX10_finds_85 ?_
      refine gx_iload X 10 rfl dX10_finds_86 ?_
      refine gx_iadd X dX10_finds_88 ?_
      refine gx_iload X 8 rfl dX10_finds_89 ?_
      refine gx_aload_n X 0 rfl dX10_finds_91 ?_
      refine gx_getf X (40) lf_X10_9 (by decide) (cl_40 _ _) (v := .ref (al (41))) rfl dX10_finds_92 ?_
      refine gx_iload X 10 rfl dX10_finds_95 ?_
      obtain ⟨q3, h⟩ := gdd_eq h
      refine gx_iald X (41) 6 (by decide) (cl_41 _ _) q3 dX10_finds_97 ?_
      refine gx_iconst X (v := (1 : Int32)) dX10_finds_98 (by decide) ?_
      refine gx_iadd X dX10_finds_99 ?_
      obtain ⟨q4, h⟩ := gdd_eq h
      refine gx_irem X dX10_finds_100 (of_decide_eq_true q4) ?_
      obtain ⟨q5, h⟩ := gdd_eq h
      refine gx_iast X (44) 144 (by decide) (fun r => cl_44 r _) q5 dX10_finds_101 ?_
      refine gx_iload X 9 rfl dX10_finds_102 ?_
      refine gx_aload_n X 0 rfl dX10_finds_104 ?_
      refine gx_getf X (40) lf_X10_28 (by decide) (cl_40 _ _) (v := .ref (al (44))) rfl dX10_finds_105 ?_
      refine gx_bipush X (v := (6 : Int32)) dX10_finds_108 (by decide) ?_
      refine gx_iload_n X 1 rfl dX10_finds_110 ?_
      refine gx_imul X dX10_finds_111 ?_
      refine gx_iload X 10 rfl dX10_finds_112 ?_
      refine gx_iadd X dX10_finds_114 ?_
      obtain ⟨q6, h⟩ := gdd_eq h
      refine gx_iald X (44) 144 (by decide) (cl_44 _ _) q6 dX10_finds_115 ?_
      refine gx_iadd X dX10_finds_116 ?_
      obtain ⟨v7, ev7, h⟩ := lti_eq h
      refine gx_topi ev7 ?_
      refine gx_istore X [(9, .int (v7)), (0, .ref (al (40))), (1, .int (x1)), (2, .int (x2)), (3, .int (x3)), (4, .int (x4)), (5, .int (x5)), (6, .int (x6)), (7, .int (x7)), (8, .int (x8)), (10, .int (x10))] dX10_finds_117 (by decide) rfl ?_
      refine gx_iload X 9 rfl dX10_finds_119 ?_
      refine gx_aload_n X 1 rfl dX10_finds_121 ?_
      refine gx_getf X (40) lf_X10_9 (by decide) (cl_40 _ _) (v := .ref (al (41))) rfl dX10_finds_122 ?_
      refine gx_iload X 10 rfl dX10_finds_125 ?_
      obtain ⟨q8, h⟩ := gdd_eq h
      refine gx_iald X (41) 6 (by decide) (cl_41 _ _) q8 dX10_finds_127 ?_
      refine gx_iconst X (v := (1 : Int32)) dX10_finds_128 (by decide) ?_
      refine gx_iadd X dX10_finds_129 ?_
      obtain ⟨q9, h⟩ := gdd_eq h
      refine gx_idiv X dX10_finds_130 (of_decide_eq_true q9) ?_
      obtain ⟨v10, ev10, h⟩ := lti_eq h
      refine gx_topi ev10 ?_
      refine gx_istore X [(8, .int (v10)), (9, .int (v7)), (0, .ref (al (40))), (1, .int (x1)), (2, .int (x2)), (3, .int (x3)), (4, .int (x4)), (5, .int (x5)), (6, .int (x6)), (7, .int (x7)), (10, .int (x10))] dX10_finds_131 (by decide) rfl ?_
      refine gx_iinc X [(10, .int ((x10 + (-1 : Int32)))), (8, .int (v10)), (9, .int (v7)), (0, .ref (al (40))), (1, .int (x1)), (2, .int (x2)), (3, .int (x3)), (4, .int (x4)), (5, .int (x5)), (6, .int (x6)), (7, .int (x7))] 10 dX10_finds_133 rfl rfl (by decide) rfl ?_
      refine gx_goto X 73 dX10_finds_136 (by decide) ?_
      exact gx_sub [3, 4, 5, 6, 7, 8, 9, 10, 1, 2, 0] rfl (ih x1 x2 x3 x4 x5 x6 x7 v10 v7 (x10 + (-1 : Int32)) (wrI g 44 (((6 : Int32) * x1) + x10).toNatClampNeg (rmI x8 ((rdI g 41 x10.toNatClampNeg) + (1 : Int32)))) h)
def m_X10_finds_51 : Nat → Int32 → Int32 → Int32 → Int32 → Int32 → Int32 → Int32 → Mm → Option (Int32 × Mm)
  | 0, _, _, _, _, _, _, _, _ => none
  | n + 1, x1, x2, x3, x4, x5, x6, x7, g => (if x6 ≤ x7 then some ((0 : Int32), g) else m_X10_finds_73 (m_X10_finds_51 n) fuL x1 x2 x3 x4 x5 x6 x7 x7 (0 : Int32) ((rdI g 40 4) - (1 : Int32)) g)
set_option maxHeartbeats 2000000 in
theorem t_X10_finds_51 {r2 : Int32} {g2 : Mm} (X : gx_X p R s m args meth c D al cI cJ A RX10 cX10_finds 12 (some .boolean) d 0 0) (hd : 2 ≤ d) : ∀ (n : Nat) (x1 : Int32) (x2 : Int32) (x3 : Int32) (x4 : Int32) (x5 : Int32) (x6 : Int32) (x7 : Int32) (g : Mm), m_X10_finds_51 n x1 x2 x3 x4 x5 x6 x7 g = some (r2, g2) → gx_G p l e R s m args below meth c (gx_Q below args s D al cI cJ A (some (.int r2)) g2) D al cI cJ A 12 0 0 51 [(0, .ref (al (40))), (1, .int (x1)), (2, .int (x2)), (3, .int (x3)), (4, .int (x4)), (5, .int (x5)), (6, .int (x6)), (7, .int (x7))] [] g := by
  intro n
  induction n with
  | zero => intro x1 x2 x3 x4 x5 x6 x7 g h; cases h
  | succ n ih =>
    intro x1 x2 x3 x4 x5 x6 x7 g h
    rw [m_X10_finds_51] at h
    refine gx_iload X 7 rfl dX10_finds_51 ?_
    refine gx_iload X 6 rfl dX10_finds_53 ?_
    refine gx_icmp_ge X 222 dX10_finds_55 (by decide) (fun q1 => ?_) (fun q1 => ?_)
    · replace h := (if_pos q1).symm.trans h
      refine gx_iconst X (v := (0 : Int32)) dX10_finds_222 (by decide) ?_
      obtain ⟨rfl, rfl⟩ := ret_eq h
      exact gx_iret X rfl dX10_finds_223
    · replace h := (if_neg q1).symm.trans h
      refine gx_iload X 7 rfl dX10_finds_58 ?_
      refine gx_istore X [(8, .int (x7)), (0, .ref (al (40))), (1, .int (x1)), (2, .int (x2)), (3, .int (x3)), (4, .int (x4)), (5, .int (x5)), (6, .int (x6)), (7, .int (x7))] dX10_finds_60 (by decide) rfl ?_
      refine gx_iconst X (v := (0 : Int32)) dX10_finds_62 (by decide) ?_
      refine gx_istore X [(9, .int ((0 : Int32))), (8, .int (x7)), (0, .ref (al (40))), (1, .int (x1)), (2, .int (x2)), (3, .int (x3)), (4, .int (x4)), (5, .int (x5)), (6, .int (x6)), (7, .int (x7))] dX10_finds_63 (by decide) rfl ?_
      refine gx_aload_n X 2 rfl dX10_finds_65 ?_
      refine gx_getf X (40) lf_X10_89 (by decide) (cl_40 _ _) (v := .int ((rdI g 40 4))) rfl dX10_finds_66 ?_
      refine gx_iconst X (v := (1 : Int32)) dX10_finds_69 (by decide) ?_
      refine gx_isub X dX10_finds_70 ?_
      refine gx_istore X [(10, .int (((rdI g 40 4) - (1 : Int32)))), (9, .int ((0 : Int32))), (8, .int (x7)), (0, .ref (al (40))), (1, .int (x1)), (2, .int (x2)), (3, .int (x3)), (4, .int (x4)), (5, .int (x5)), (6, .int (x6)), (7, .int (x7))] dX10_finds_71 (by decide) rfl ?_
      exact gx_sub [3, 4, 5, 6, 7, 8, 9, 10, 2, 1, 0] rfl (t_X10_finds_73 X hd (fun u0 u1 u2 u3 u4 u5 u6 g h => ih u0 u1 u2 u3 u4 u5 u6 g h) fuL x1 x2 x3 x4 x5 x6 x7 x7 (0 : Int32) ((rdI g 40 4) - (1 : Int32)) g h)
def m_X10_finds_19 : Nat → Int32 → Int32 → Int32 → Int32 → Int32 → Int32 → Int32 → Mm → Option (Int32 × Mm)
  | 0, _, _, _, _, _, _, _, _ => none
  | n + 1, x1, x2, x3, x4, x5, x6, x7, g => (if (rdI g 40 4) ≤ x7 then m_X10_finds_51 fuL x1 x2 x3 x4 x5 x6 (0 : Int32) g else gdd (ixo x7 6) (lti (x6 * ((rdI g 41 x7.toNatClampNeg) + (1 : Int32))) (fun v3 => m_X10_finds_19 n x1 x2 x3 x4 x5 v3 (x7 + (1 : Int32)) g)))
set_option maxHeartbeats 2000000 in
theorem t_X10_finds_19 {r2 : Int32} {g2 : Mm} (X : gx_X p R s m args meth c D al cI cJ A RX10 cX10_finds 12 (some .boolean) d 0 0) (hd : 2 ≤ d) : ∀ (n : Nat) (x1 : Int32) (x2 : Int32) (x3 : Int32) (x4 : Int32) (x5 : Int32) (x6 : Int32) (x7 : Int32) (g : Mm), m_X10_finds_19 n x1 x2 x3 x4 x5 x6 x7 g = some (r2, g2) → gx_G p l e R s m args below meth c (gx_Q below args s D al cI cJ A (some (.int r2)) g2) D al cI cJ A 12 0 0 19 [(0, .ref (al (40))), (1, .int (x1)), (2, .int (x2)), (3, .int (x3)), (4, .int (x4)), (5, .int (x5)), (6, .int (x6)), (7, .int (x7))] [] g := by
  intro n
  induction n with
  | zero => intro x1 x2 x3 x4 x5 x6 x7 g h; cases h
  | succ n ih =>
    intro x1 x2 x3 x4 x5 x6 x7 g h
    rw [m_X10_finds_19] at h
    refine gx_iload X 7 rfl dX10_finds_19 ?_
    refine gx_aload_n X 0 rfl dX10_finds_21 ?_
    refine gx_getf X (40) lf_X10_89 (by decide) (cl_40 _ _) (v := .int ((rdI g 40 4))) rfl dX10_finds_22 ?_
    refine gx_icmp_ge X 48 dX10_finds_25 (by decide) (fun q1 => ?_) (fun q1 => ?_)
    · replace h := (if_pos q1).symm.trans h
      refine gx_iconst X (v := (0 : Int32)) dX10_finds_48 (by decide) ?_
      refine gx_istore X [(7, .int ((0 : Int32))), (0, .ref (al (40))), (1, .int (x1)), (2, .int (x2)), (3, .int (x3)), (4, .int (x4)), (5, .int (x5)), (6, .int (x6))] dX10_finds_49 (by decide) rfl ?_
      exact gx_sub [1, 2, 3, 4, 5, 6, 7, 0] rfl (t_X10_finds_51 X hd fuL x1 x2 x3 x4 x5 x6 (0 : Int32) g h)
    · replace h := (if_neg q1).symm.trans h
      refine gx_iload X 6 rfl dX10_finds_28 ?_
      refine gx_aload_n X 0 rfl dX10_finds_30 ?_
      refine gx_getf X (40) lf_X10_9 (by decide) (cl_40 _ _) (v := .ref (al (41))) rfl dX10_finds_31 ?_
      refine gx_iload X 7 rfl dX10_finds_34 ?_
      obtain ⟨q2, h⟩ := gdd_eq h
      refine gx_iald X (41) 6 (by decide) (cl_41 _ _) q2 dX10_finds_36 ?_
      refine gx_iconst X (v := (1 : Int32)) dX10_finds_37 (by decide) ?_
      refine gx_iadd X dX10_finds_38 ?_
      refine gx_imul X dX10_finds_39 ?_
      obtain ⟨v3, ev3, h⟩ := lti_eq h
      refine gx_topi ev3 ?_
      refine gx_istore X [(6, .int (v3)), (0, .ref (al (40))), (1, .int (x1)), (2, .int (x2)), (3, .int (x3)), (4, .int (x4)), (5, .int (x5)), (7, .int (x7))] dX10_finds_40 (by decide) rfl ?_
      refine gx_iinc X [(7, .int ((x7 + (1 : Int32)))), (6, .int (v3)), (0, .ref (al (40))), (1, .int (x1)), (2, .int (x2)), (3, .int (x3)), (4, .int (x4)), (5, .int (x5))] 7 dX10_finds_42 rfl rfl (by decide) rfl ?_
      refine gx_goto X 19 dX10_finds_45 (by decide) ?_
      exact gx_sub [2, 3, 4, 5, 6, 7, 1, 0] rfl (ih x1 x2 x3 x4 x5 v3 (x7 + (1 : Int32)) g h)
def m_X10_finds (a1 : Int32) (a2 : Int32) (a3 : Int32) (a4 : Int32) (g : Mm) : Option (Int32 × Mm) := bdd (m_X10_heardNow  g) (fun ra1 ga2 => m_X10_finds_19 fuL a1 a2 a3 a4 (((rdI g 40 4) - ra1) + (1 : Int32)) (1 : Int32) (0 : Int32) ga2)
set_option maxHeartbeats 2000000 in
theorem c_X10_finds {r2 : Int32} {g g2 : Mm} {a1 : Int32} {a2 : Int32} {a3 : Int32} {a4 : Int32} (h : m_X10_finds a1 a2 a3 a4 g = some (r2, g2)) : gx_M 2 yX10_finds cX10_finds 12 (some .boolean) (fun al => [.ref (al (40)), .int (a1), .int (a2), .int (a3), .int (a4)]) g (some (.int r2)) g2 := by
  have hd : 2 ≤ 2 := Nat.le_refl _
  refine gx_M.of (by decide +kernel) (fun _ => Nat.le_of_ble_eq_true rfl) ?_
  intro p l e R s m args below meth c D al cI cJ A X
  refine gx_eq (pc' := 0) (ls' := [(0, .ref (al (40))), (1, .int (a1)), (2, .int (a2)), (3, .int (a3)), (4, .int (a4))]) (st' := []) (g' := g) ⟨rfl, rfl, rfl, rfl⟩ ?_
  unfold m_X10_finds at h
  refine gx_aload_n X 0 rfl dX10_finds_0 ?_
  refine gx_getf X (40) lf_X10_89 (by decide) (cl_40 _ _) (v := .int ((rdI g 40 4))) rfl dX10_finds_1 ?_
  refine gx_aload_n X 0 rfl dX10_finds_4 ?_
  obtain ⟨ra1, ga2, ca3, h⟩ := bdd_eq h
  refine gx_callVi X (40) (c_X10_heardNow ca3) lc_X10_heardNow li_X10_heardNow lm_X10_251 (by decide) (cl_40 _ _) rfl rfl rfl (Nat.le_trans (by decide) hd) rfl (Nat.le_of_ble_eq_true rfl) dX10_finds_5 ?_
  refine gx_isub X dX10_finds_8 ?_
  refine gx_iconst X (v := (1 : Int32)) dX10_finds_9 (by decide) ?_
  refine gx_iadd X dX10_finds_10 ?_
  refine gx_istore X [(5, .int ((((rdI g 40 4) - ra1) + (1 : Int32)))), (0, .ref (al (40))), (1, .int (a1)), (2, .int (a2)), (3, .int (a3)), (4, .int (a4))] dX10_finds_11 (by decide) rfl ?_
  refine gx_iconst X (v := (1 : Int32)) dX10_finds_13 (by decide) ?_
  refine gx_istore X [(6, .int ((1 : Int32))), (5, .int ((((rdI g 40 4) - ra1) + (1 : Int32)))), (0, .ref (al (40))), (1, .int (a1)), (2, .int (a2)), (3, .int (a3)), (4, .int (a4))] dX10_finds_14 (by decide) rfl ?_
  refine gx_iconst X (v := (0 : Int32)) dX10_finds_16 (by decide) ?_
  refine gx_istore X [(7, .int ((0 : Int32))), (6, .int ((1 : Int32))), (5, .int ((((rdI g 40 4) - ra1) + (1 : Int32)))), (0, .ref (al (40))), (1, .int (a1)), (2, .int (a2)), (3, .int (a3)), (4, .int (a4))] dX10_finds_17 (by decide) rfl ?_
  exact gx_sub [3, 4, 5, 6, 7, 2, 1, 0] rfl (t_X10_finds_19 X hd fuL a1 a2 a3 a4 (((rdI g 40 4) - ra1) + (1 : Int32)) (1 : Int32) (0 : Int32) ga2 h)
end DC
