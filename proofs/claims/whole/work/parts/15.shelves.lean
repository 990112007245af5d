section DC
variable {p : Program} {l : Launch} {e : Env} {R : Room} {s : State} {m : MethodId} {args : Array Value} {below : List Frame} {meth : Method} {c : Code} {D : va_G} {al : Nat → Nat} {cI cJ : ClassId} {A : Nat → Prop} {d : Nat}
theorem dX6_at_0 : decode cX6_at 0 = .ok (.aload_n 0, 1) := by decide +kernel
theorem dX6_at_1 : decode cX6_at 1 = .ok (.getfield 21, 3) := by decide +kernel
theorem dX6_at_4 : decode cX6_at 4 = .ok (.iload_n 1, 1) := by decide +kernel
theorem dX6_at_5 : decode cX6_at 5 = .ok (.bipush 60, 2) := by decide +kernel
theorem dX6_at_7 : decode cX6_at 7 = .ok (.imul, 1) := by decide +kernel
theorem dX6_at_8 : decode cX6_at 8 = .ok (.iload_n 2, 1) := by decide +kernel
theorem dX6_at_9 : decode cX6_at 9 = .ok (.iadd, 1) := by decide +kernel
theorem dX6_at_10 : decode cX6_at 10 = .ok (.laload, 1) := by decide +kernel
theorem dX6_at_11 : decode cX6_at 11 = .ok (.lreturn, 1) := by decide +kernel
def m_X6_at (a1 : Int32) (a2 : Int32) (g : Mm) : Option (Int64 × Mm) := gdd (ixo ((a1 * (60 : Int32)) + a2) 360) (some ((rdL g 39 ((a1 * (60 : Int32)) + a2).toNatClampNeg), g))
set_option maxHeartbeats 2000000 in
theorem c_X6_at {r2 : Int64} {g g2 : Mm} {a1 : Int32} {a2 : Int32} (h : m_X6_at a1 a2 g = some (r2, g2)) : gx_M 1 yX6_at cX6_at 3 (some .long) (fun al => [.ref (al (35)), .int (a1), .int (a2)]) g (some (.long r2)) g2 := by
  have hd : 1 ≤ 1 := Nat.le_refl _
  refine gx_M.of (by decide +kernel) (fun _ => Nat.le_of_ble_eq_true rfl) ?_
  intro p l e R s m args below meth c D al cI cJ A X
  refine gx_eq (pc' := 0) (ls' := [(0, .ref (al (35))), (1, .int (a1)), (2, .int (a2))]) (st' := []) (g' := g) ⟨rfl, rfl, rfl, rfl⟩ ?_
  unfold m_X6_at at h
  refine gx_aload_n X 0 rfl dX6_at_0 ?_
  refine gx_getf X (35) lf_X6_21 (by decide) (cl_35 _ _) (v := .ref (al (39))) rfl dX6_at_1 ?_
  refine gx_iload_n X 1 rfl dX6_at_4 ?_
  refine gx_bipush X (v := (60 : Int32)) dX6_at_5 (by decide) ?_
  refine gx_imul X dX6_at_7 ?_
  refine gx_iload_n X 2 rfl dX6_at_8 ?_
  refine gx_iadd X dX6_at_9 ?_
  obtain ⟨q1, h⟩ := gdd_eq h
  refine gx_lald X (39) 360 (by decide) (cl_39 _ _) q1 dX6_at_10 ?_
  obtain ⟨rfl, rfl⟩ := ret_eq h
  exact gx_lret X dX6_at_11
theorem dX6_clear_0 : decode cX6_clear 0 = .ok (.aload_n 0, 1) := by decide +kernel
theorem dX6_clear_1 : decode cX6_clear 1 = .ok (.getfield 11, 3) := by decide +kernel
theorem dX6_clear_4 : decode cX6_clear 4 = .ok (.iload_n 1, 1) := by decide +kernel
theorem dX6_clear_5 : decode cX6_clear 5 = .ok (.iconst (-1), 1) := by decide +kernel
theorem dX6_clear_6 : decode cX6_clear 6 = .ok (.iastore, 1) := by decide +kernel
theorem dX6_clear_7 : decode cX6_clear 7 = .ok (.aload_n 0, 1) := by decide +kernel
theorem dX6_clear_8 : decode cX6_clear 8 = .ok (.getfield 18, 3) := by decide +kernel
theorem dX6_clear_11 : decode cX6_clear 11 = .ok (.iload_n 1, 1) := by decide +kernel
theorem dX6_clear_12 : decode cX6_clear 12 = .ok (.iconst 0, 1) := by decide +kernel
theorem dX6_clear_13 : decode cX6_clear 13 = .ok (.iastore, 1) := by decide +kernel
theorem dX6_clear_14 : decode cX6_clear 14 = .ok (.return_, 1) := by decide +kernel
def m_X6_clear (a1 : Int32) (g : Mm) : Option (Int32 × Mm) := gdd (ixo a1 6) (gdd (ixo a1 6) (some ((0 : Int32), (wrI (wrI g 36 a1.toNatClampNeg (-1 : Int32)) 38 a1.toNatClampNeg (0 : Int32)))))
set_option maxHeartbeats 2000000 in
theorem c_X6_clear {r2 : Int32} {g g2 : Mm} {a1 : Int32} (h : m_X6_clear a1 g = some (r2, g2)) : gx_M 1 yX6_clear cX6_clear 2 none (fun al => [.ref (al (35)), .int (a1)]) g none g2 := by
  have hd : 1 ≤ 1 := Nat.le_refl _
  refine gx_M.of (by decide +kernel) (fun _ => Nat.le_of_ble_eq_true rfl) ?_
  intro p l e R s m args below meth c D al cI cJ A X
  refine gx_eq (pc' := 0) (ls' := [(0, .ref (al (35))), (1, .int (a1))]) (st' := []) (g' := g) ⟨rfl, rfl, rfl, rfl⟩ ?_
  unfold m_X6_clear at h
  refine gx_aload_n X 0 rfl dX6_clear_0 ?_
  refine gx_getf X (35) lf_X6_11 (by decide) (cl_35 _ _) (v := .ref (al (36))) rfl dX6_clear_1 ?_
  refine gx_iload_n X 1 rfl dX6_clear_4 ?_
  refine gx_iconst X (v := (-1 : Int32)) dX6_clear_5 (by decide) ?_
  obtain ⟨q1, h⟩ := gdd_eq h
  refine gx_iast X (36) 6 (by decide) (fun r => cl_36 r _) q1 dX6_clear_6 ?_
  refine gx_aload_n X 0 rfl dX6_clear_7 ?_
  refine gx_getf X (35) lf_X6_18 (by decide) (cl_35 _ _) (v := .ref (al (38))) rfl dX6_clear_8 ?_
  refine gx_iload_n X 1 rfl dX6_clear_11 ?_
  refine gx_iconst X (v := (0 : Int32)) dX6_clear_12 (by decide) ?_
  obtain ⟨q2, h⟩ := gdd_eq h
  refine gx_iast X (38) 6 (by decide) (fun r => cl_38 r _) q2 dX6_clear_13 ?_
  obtain ⟨rfl, rfl⟩ := ret_eq h
  exact gx_vret X dX6_clear_14
theorem dX6_copy_0 : decode cX6_copy 0 = .ok (.aload_n 0, 1) := by decide +kernel
theorem dX6_copy_1 : decode cX6_copy 1 = .ok (.getfield 21, 3) := by decide +kernel
theorem dX6_copy_4 : decode cX6_copy 4 = .ok (.iload_n 1, 1) := by decide +kernel
theorem dX6_copy_5 : decode cX6_copy 5 = .ok (.bipush 60, 2) := by decide +kernel
theorem dX6_copy_7 : decode cX6_copy 7 = .ok (.imul, 1) := by decide +kernel
theorem dX6_copy_8 : decode cX6_copy 8 = .ok (.iload_n 2, 1) := by decide +kernel
theorem dX6_copy_9 : decode cX6_copy 9 = .ok (.iadd, 1) := by decide +kernel
theorem dX6_copy_10 : decode cX6_copy 10 = .ok (.aload_n 0, 1) := by decide +kernel
theorem dX6_copy_11 : decode cX6_copy 11 = .ok (.getfield 21, 3) := by decide +kernel
theorem dX6_copy_14 : decode cX6_copy 14 = .ok (.iload_n 3, 1) := by decide +kernel
theorem dX6_copy_15 : decode cX6_copy 15 = .ok (.bipush 60, 2) := by decide +kernel
theorem dX6_copy_17 : decode cX6_copy 17 = .ok (.imul, 1) := by decide +kernel
theorem dX6_copy_18 : decode cX6_copy 18 = .ok (.iload 4, 2) := by decide +kernel
theorem dX6_copy_20 : decode cX6_copy 20 = .ok (.iadd, 1) := by decide +kernel
theorem dX6_copy_21 : decode cX6_copy 21 = .ok (.iload 5, 2) := by decide +kernel
theorem dX6_copy_23 : decode cX6_copy 23 = .ok (.invokestatic 43, 3) := by decide +kernel
theorem dX6_copy_26 : decode cX6_copy 26 = .ok (.return_, 1) := by decide +kernel
def m_X6_copy (a1 : Int32) (a2 : Int32) (a3 : Int32) (a4 : Int32) (a5 : Int32) (g : Mm) : Option (Int32 × Mm) := gdd (acp ((a1 * (60 : Int32)) + a2) a5 360) (gdd (acp ((a3 * (60 : Int32)) + a4) a5 360) (some ((0 : Int32), (cpL g 39 ((a1 * (60 : Int32)) + a2).toNatClampNeg 39 ((a3 * (60 : Int32)) + a4).toNatClampNeg a5.toNatClampNeg))))
set_option maxHeartbeats 2000000 in
theorem c_X6_copy {r2 : Int32} {g g2 : Mm} {a1 : Int32} {a2 : Int32} {a3 : Int32} {a4 : Int32} {a5 : Int32} (h : m_X6_copy a1 a2 a3 a4 a5 g = some (r2, g2)) : gx_M 1 yX6_copy cX6_copy 6 none (fun al => [.ref (al (35)), .int (a1), .int (a2), .int (a3), .int (a4), .int (a5)]) g none g2 := by
  have hd : 1 ≤ 1 := Nat.le_refl _
  refine gx_M.of (by decide +kernel) (fun _ => Nat.le_of_ble_eq_true rfl) ?_
  intro p l e R s m args below meth c D al cI cJ A X
  refine gx_eq (pc' := 0) (ls' := [(0, .ref (al (35))), (1, .int (a1)), (2, .int (a2)), (3, .int (a3)), (4, .int (a4)), (5, .int (a5))]) (st' := []) (g' := g) ⟨rfl, rfl, rfl, rfl⟩ ?_
  unfold m_X6_copy at h
  refine gx_aload_n X 0 rfl dX6_copy_0 ?_
  refine gx_getf X (35) lf_X6_21 (by decide) (cl_35 _ _) (v := .ref (al (39))) rfl dX6_copy_1 ?_
  refine gx_iload_n X 1 rfl dX6_copy_4 ?_
  refine gx_bipush X (v := (60 : Int32)) dX6_copy_5 (by decide) ?_
  refine gx_imul X dX6_copy_7 ?_
  refine gx_iload_n X 2 rfl dX6_copy_8 ?_
  refine gx_iadd X dX6_copy_9 ?_
  refine gx_aload_n X 0 rfl dX6_copy_10 ?_
  refine gx_getf X (35) lf_X6_21 (by decide) (cl_35 _ _) (v := .ref (al (39))) rfl dX6_copy_11 ?_
  refine gx_iload_n X 3 rfl dX6_copy_14 ?_
  refine gx_bipush X (v := (60 : Int32)) dX6_copy_15 (by decide) ?_
  refine gx_imul X dX6_copy_17 ?_
  refine gx_iload X 4 rfl dX6_copy_18 ?_
  refine gx_iadd X dX6_copy_20 ?_
  refine gx_iload X 5 rfl dX6_copy_21 ?_
  obtain ⟨q1, h⟩ := gdd_eq h
  obtain ⟨q2, h⟩ := gdd_eq h
  refine gx_cpyL X (39) (39) 360 360 lm_X6_43 lx_nat lx_stat lx_ini (Nat.le_trans (by decide) hd) (by decide) (by decide) (cl_39 _ _) (fun r => cl_39 _ r) q1 q2 (Nat.le_of_ble_eq_true rfl) dX6_copy_23 ?_
  obtain ⟨rfl, rfl⟩ := ret_eq h
  exact gx_vret X dX6_copy_26
theorem dX6_hasPart_0 : decode cX6_hasPart 0 = .ok (.iload_n 2, 1) := by decide +kernel
theorem dX6_hasPart_1 : decode cX6_hasPart 1 = .ok (.ifCond .lt 23, 3) := by decide +kernel
theorem dX6_hasPart_4 : decode cX6_hasPart 4 = .ok (.iload_n 3, 1) := by decide +kernel
theorem dX6_hasPart_5 : decode cX6_hasPart 5 = .ok (.ifCond .lt 19, 3) := by decide +kernel
theorem dX6_hasPart_8 : decode cX6_hasPart 8 = .ok (.iload_n 2, 1) := by decide +kernel
theorem dX6_hasPart_9 : decode cX6_hasPart 9 = .ok (.aload_n 0, 1) := by decide +kernel
theorem dX6_hasPart_10 : decode cX6_hasPart 10 = .ok (.getfield 18, 3) := by decide +kernel
theorem dX6_hasPart_13 : decode cX6_hasPart 13 = .ok (.iload_n 1, 1) := by decide +kernel
theorem dX6_hasPart_14 : decode cX6_hasPart 14 = .ok (.iaload, 1) := by decide +kernel
theorem dX6_hasPart_15 : decode cX6_hasPart 15 = .ok (.iload_n 3, 1) := by decide +kernel
theorem dX6_hasPart_16 : decode cX6_hasPart 16 = .ok (.isub, 1) := by decide +kernel
theorem dX6_hasPart_17 : decode cX6_hasPart 17 = .ok (.if_icmp .gt 7, 3) := by decide +kernel
theorem dX6_hasPart_20 : decode cX6_hasPart 20 = .ok (.iconst 1, 1) := by decide +kernel
theorem dX6_hasPart_21 : decode cX6_hasPart 21 = .ok (.goto 4, 3) := by decide +kernel
theorem dX6_hasPart_24 : decode cX6_hasPart 24 = .ok (.iconst 0, 1) := by decide +kernel
theorem dX6_hasPart_25 : decode cX6_hasPart 25 = .ok (.ireturn, 1) := by decide +kernel
def m_X6_hasPart (a1 : Int32) (a2 : Int32) (a3 : Int32) (g : Mm) : Option (Int32 × Mm) := (if a2 < (0 : Int32) then some ((0 : Int32), g) else (if a3 < (0 : Int32) then some ((0 : Int32), g) else gdd (ixo a1 6) ((if ((rdI g 38 a1.toNatClampNeg) - a3) < a2 then some ((0 : Int32), g) else some ((1 : Int32), g)))))
set_option maxHeartbeats 2000000 in
theorem c_X6_hasPart {r2 : Int32} {g g2 : Mm} {a1 : Int32} {a2 : Int32} {a3 : Int32} (h : m_X6_hasPart a1 a2 a3 g = some (r2, g2)) : gx_M 1 yX6_hasPart cX6_hasPart 4 (some .boolean) (fun al => [.ref (al (35)), .int (a1), .int (a2), .int (a3)]) g (some (.int r2)) g2 := by
  have hd : 1 ≤ 1 := Nat.le_refl _
  refine gx_M.of (by decide +kernel) (fun _ => Nat.le_of_ble_eq_true rfl) ?_
  intro p l e R s m args below meth c D al cI cJ A X
  refine gx_eq (pc' := 0) (ls' := [(0, .ref (al (35))), (1, .int (a1)), (2, .int (a2)), (3, .int (a3))]) (st' := []) (g' := g) ⟨rfl, rfl, rfl, rfl⟩ ?_
  unfold m_X6_hasPart at h
  refine gx_iload_n X 2 rfl dX6_hasPart_0 ?_
  refine gx_if_lt X 24 dX6_hasPart_1 (by decide) (fun q1 => ?_) (fun q1 => ?_)
  · replace h := (if_pos q1).symm.trans h
    refine gx_iconst X (v := (0 : Int32)) dX6_hasPart_24 (by decide) ?_
    obtain ⟨rfl, rfl⟩ := ret_eq h
    exact gx_iret X rfl dX6_hasPart_25
  · replace h := (if_neg q1).symm.trans h
    refine gx_iload_n X 3 rfl dX6_hasPart_4 ?_
    refine gx_if_lt X 24 dX6_hasPart_5 (by decide) (fun q2 => ?_) (fun q2 => ?_)
    · replace h := (if_pos q2).symm.trans h
      refine gx_iconst X (v := (0 : Int32)) dX6_hasPart_24 (by decide) ?_
      obtain ⟨rfl, rfl⟩ := ret_eq h
      exact gx_iret X rfl dX6_hasPart_25
    · replace h := (if_neg q2).symm.trans h
      refine gx_iload_n X 2 rfl dX6_hasPart_8 ?_
      refine gx_aload_n X 0 rfl dX6_hasPart_9 ?_
      refine gx_getf X (35) lf_X6_18 (by decide) (cl_35 _ _) (v := .ref (al (38))) rfl dX6_hasPart_10 ?_
      refine gx_iload_n X 1 rfl dX6_hasPart_13 ?_
      obtain ⟨q3, h⟩ := gdd_eq h
      refine gx_iald X (38) 6 (by decide) (cl_38 _ _) q3 dX6_hasPart_14 ?_
      refine gx_iload_n X 3 rfl dX6_hasPart_15 ?_
      refine gx_isub X dX6_hasPart_16 ?_
      refine gx_icmp_gt X 24 dX6_hasPart_17 (by decide) (fun q4 => ?_) (fun q4 => ?_)
      · replace h := (if_pos q4).symm.trans h
        refine gx_iconst X (v := (0 : Int32)) dX6_hasPart_24 (by decide) ?_
        obtain ⟨rfl, rfl⟩ := ret_eq h
        exact gx_iret X rfl dX6_hasPart_25
      · replace h := (if_neg q4).symm.trans h
        refine gx_iconst X (v := (1 : Int32)) dX6_hasPart_20 (by decide) ?_
        refine gx_goto X 25 dX6_hasPart_21 (by decide) ?_
        obtain ⟨rfl, rfl⟩ := ret_eq h
        exact gx_iret X rfl dX6_hasPart_25
theorem dX6_hasPlace_0 : decode cX6_hasPlace 0 = .ok (.iload_n 2, 1) := by decide +kernel
theorem dX6_hasPlace_1 : decode cX6_hasPlace 1 = .ok (.ifCond .lt 17, 3) := by decide +kernel
theorem dX6_hasPlace_4 : decode cX6_hasPlace 4 = .ok (.iload_n 2, 1) := by decide +kernel
theorem dX6_hasPlace_5 : decode cX6_hasPlace 5 = .ok (.aload_n 0, 1) := by decide +kernel
theorem dX6_hasPlace_6 : decode cX6_hasPlace 6 = .ok (.getfield 18, 3) := by decide +kernel
theorem dX6_hasPlace_9 : decode cX6_hasPlace 9 = .ok (.iload_n 1, 1) := by decide +kernel
theorem dX6_hasPlace_10 : decode cX6_hasPlace 10 = .ok (.iaload, 1) := by decide +kernel
theorem dX6_hasPlace_11 : decode cX6_hasPlace 11 = .ok (.if_icmp .ge 7, 3) := by decide +kernel
theorem dX6_hasPlace_14 : decode cX6_hasPlace 14 = .ok (.iconst 1, 1) := by decide +kernel
theorem dX6_hasPlace_15 : decode cX6_hasPlace 15 = .ok (.goto 4, 3) := by decide +kernel
theorem dX6_hasPlace_18 : decode cX6_hasPlace 18 = .ok (.iconst 0, 1) := by decide +kernel
theorem dX6_hasPlace_19 : decode cX6_hasPlace 19 = .ok (.ireturn, 1) := by decide +kernel
def m_X6_hasPlace (a1 : Int32) (a2 : Int32) (g : Mm) : Option (Int32 × Mm) := (if a2 < (0 : Int32) then some ((0 : Int32), g) else gdd (ixo a1 6) ((if (rdI g 38 a1.toNatClampNeg) ≤ a2 then some ((0 : Int32), g) else some ((1 : Int32), g))))
set_option maxHeartbeats 2000000 in
theorem c_X6_hasPlace {r2 : Int32} {g g2 : Mm} {a1 : Int32} {a2 : Int32} (h : m_X6_hasPlace a1 a2 g = some (r2, g2)) : gx_M 1 yX6_hasPlace cX6_hasPlace 3 (some .boolean) (fun al => [.ref (al (35)), .int (a1), .int (a2)]) g (some (.int r2)) g2 := by
  have hd : 1 ≤ 1 := Nat.le_refl _
  refine gx_M.of (by decide +kernel) (fun _ => Nat.le_of_ble_eq_true rfl) ?_
  intro p l e R s m args below meth c D al cI cJ A X
  refine gx_eq (pc' := 0) (ls' := [(0, .ref (al (35))), (1, .int (a1)), (2, .int (a2))]) (st' := []) (g' := g) ⟨rfl, rfl, rfl, rfl⟩ ?_
  unfold m_X6_hasPlace at h
  refine gx_iload_n X 2 rfl dX6_hasPlace_0 ?_
  refine gx_if_lt X 18 dX6_hasPlace_1 (by decide) (fun q1 => ?_) (fun q1 => ?_)
  · replace h := (if_pos q1).symm.trans h
    refine gx_iconst X (v := (0 : Int32)) dX6_hasPlace_18 (by decide) ?_
    obtain ⟨rfl, rfl⟩ := ret_eq h
    exact gx_iret X rfl dX6_hasPlace_19
  · replace h := (if_neg q1).symm.trans h
    refine gx_iload_n X 2 rfl dX6_hasPlace_4 ?_
    refine gx_aload_n X 0 rfl dX6_hasPlace_5 ?_
    refine gx_getf X (35) lf_X6_18 (by decide) (cl_35 _ _) (v := .ref (al (38))) rfl dX6_hasPlace_6 ?_
    refine gx_iload_n X 1 rfl dX6_hasPlace_9 ?_
    obtain ⟨q2, h⟩ := gdd_eq h
    refine gx_iald X (38) 6 (by decide) (cl_38 _ _) q2 dX6_hasPlace_10 ?_
    refine gx_icmp_ge X 18 dX6_hasPlace_11 (by decide) (fun q3 => ?_) (fun q3 => ?_)
    · replace h := (if_pos q3).symm.trans h
      refine gx_iconst X (v := (0 : Int32)) dX6_hasPlace_18 (by decide) ?_
      obtain ⟨rfl, rfl⟩ := ret_eq h
      exact gx_iret X rfl dX6_hasPlace_19
    · replace h := (if_neg q3).symm.trans h
      refine gx_iconst X (v := (1 : Int32)) dX6_hasPlace_14 (by decide) ?_
      refine gx_goto X 19 dX6_hasPlace_15 (by decide) ?_
      obtain ⟨rfl, rfl⟩ := ret_eq h
      exact gx_iret X rfl dX6_hasPlace_19
theorem dX6_hasShelf_0 : decode cX6_hasShelf 0 = .ok (.iload_n 1, 1) := by decide +kernel
theorem dX6_hasShelf_1 : decode cX6_hasShelf 1 = .ok (.ifCond .lt 13, 3) := by decide +kernel
theorem dX6_hasShelf_4 : decode cX6_hasShelf 4 = .ok (.iload_n 1, 1) := by decide +kernel
theorem dX6_hasShelf_5 : decode cX6_hasShelf 5 = .ok (.bipush 6, 2) := by decide +kernel
theorem dX6_hasShelf_7 : decode cX6_hasShelf 7 = .ok (.if_icmp .ge 7, 3) := by decide +kernel
theorem dX6_hasShelf_10 : decode cX6_hasShelf 10 = .ok (.iconst 1, 1) := by decide +kernel
theorem dX6_hasShelf_11 : decode cX6_hasShelf 11 = .ok (.goto 4, 3) := by decide +kernel
theorem dX6_hasShelf_14 : decode cX6_hasShelf 14 = .ok (.iconst 0, 1) := by decide +kernel
theorem dX6_hasShelf_15 : decode cX6_hasShelf 15 = .ok (.ireturn, 1) := by decide +kernel
def m_X6_hasShelf (a1 : Int32) (g : Mm) : Option (Int32 × Mm) := (if a1 < (0 : Int32) then some ((0 : Int32), g) else (if (6 : Int32) ≤ a1 then some ((0 : Int32), g) else some ((1 : Int32), g)))
set_option maxHeartbeats 2000000 in
theorem c_X6_hasShelf {r2 : Int32} {g g2 : Mm} {a1 : Int32} (h : m_X6_hasShelf a1 g = some (r2, g2)) : gx_M 1 yX6_hasShelf cX6_hasShelf 2 (some .boolean) (fun al => [.ref (al (35)), .int (a1)]) g (some (.int r2)) g2 := by
  have hd : 1 ≤ 1 := Nat.le_refl _
  refine gx_M.of (by decide +kernel) (fun _ => Nat.le_of_ble_eq_true rfl) ?_
  intro p l e R s m args below meth c D al cI cJ A X
  refine gx_eq (pc' := 0) (ls' := [(0, .ref (al (35))), (1, .int (a1))]) (st' := []) (g' := g) ⟨rfl, rfl, rfl, rfl⟩ ?_
  unfold m_X6_hasShelf at h
  refine gx_iload_n X 1 rfl dX6_hasShelf_0 ?_
  refine gx_if_lt X 14 dX6_hasShelf_1 (by decide) (fun q1 => ?_) (fun q1 => ?_)
  · replace h := (if_pos q1).symm.trans h
    refine gx_iconst X (v := (0 : Int32)) dX6_hasShelf_14 (by decide) ?_
    obtain ⟨rfl, rfl⟩ := ret_eq h
    exact gx_iret X rfl dX6_hasShelf_15
  · replace h := (if_neg q1).symm.trans h
    refine gx_iload_n X 1 rfl dX6_hasShelf_4 ?_
    refine gx_bipush X (v := (6 : Int32)) dX6_hasShelf_5 (by decide) ?_
    refine gx_icmp_ge X 14 dX6_hasShelf_7 (by decide) (fun q2 => ?_) (fun q2 => ?_)
    · replace h := (if_pos q2).symm.trans h
      refine gx_iconst X (v := (0 : Int32)) dX6_hasShelf_14 (by decide) ?_
      obtain ⟨rfl, rfl⟩ := ret_eq h
      exact gx_iret X rfl dX6_hasShelf_15
    · replace h := (if_neg q2).symm.trans h
      refine gx_iconst X (v := (1 : Int32)) dX6_hasShelf_10 (by decide) ?_
      refine gx_goto X 15 dX6_hasShelf_11 (by decide) ?_
      obtain ⟨rfl, rfl⟩ := ret_eq h
      exact gx_iret X rfl dX6_hasShelf_15
theorem dX6_holdRow_0 : decode cX6_holdRow 0 = .ok (.aload_n 0, 1) := by decide +kernel
theorem dX6_holdRow_1 : decode cX6_holdRow 1 = .ok (.getfield 11, 3) := by decide +kernel
theorem dX6_holdRow_4 : decode cX6_holdRow 4 = .ok (.iload_n 1, 1) := by decide +kernel
theorem dX6_holdRow_5 : decode cX6_holdRow 5 = .ok (.iload_n 2, 1) := by decide +kernel
theorem dX6_holdRow_6 : decode cX6_holdRow 6 = .ok (.iastore, 1) := by decide +kernel
theorem dX6_holdRow_7 : decode cX6_holdRow 7 = .ok (.aload_n 0, 1) := by decide +kernel
theorem dX6_holdRow_8 : decode cX6_holdRow 8 = .ok (.getfield 18, 3) := by decide +kernel
theorem dX6_holdRow_11 : decode cX6_holdRow 11 = .ok (.iload_n 1, 1) := by decide +kernel
theorem dX6_holdRow_12 : decode cX6_holdRow 12 = .ok (.iload_n 3, 1) := by decide +kernel
theorem dX6_holdRow_13 : decode cX6_holdRow 13 = .ok (.iastore, 1) := by decide +kernel
theorem dX6_holdRow_14 : decode cX6_holdRow 14 = .ok (.iconst 0, 1) := by decide +kernel
theorem dX6_holdRow_15 : decode cX6_holdRow 15 = .ok (.istore 4, 2) := by decide +kernel
theorem dX6_holdRow_17 : decode cX6_holdRow 17 = .ok (.iload 4, 2) := by decide +kernel
theorem dX6_holdRow_19 : decode cX6_holdRow 19 = .ok (.iload_n 3, 1) := by decide +kernel
theorem dX6_holdRow_20 : decode cX6_holdRow 20 = .ok (.if_icmp .ge 22, 3) := by decide +kernel
theorem dX6_holdRow_23 : decode cX6_holdRow 23 = .ok (.aload_n 0, 1) := by decide +kernel
theorem dX6_holdRow_24 : decode cX6_holdRow 24 = .ok (.getfield 21, 3) := by decide +kernel
theorem dX6_holdRow_27 : decode cX6_holdRow 27 = .ok (.iload_n 1, 1) := by decide +kernel
theorem dX6_holdRow_28 : decode cX6_holdRow 28 = .ok (.bipush 60, 2) := by decide +kernel
theorem dX6_holdRow_30 : decode cX6_holdRow 30 = .ok (.imul, 1) := by decide +kernel
theorem dX6_holdRow_31 : decode cX6_holdRow 31 = .ok (.iload 4, 2) := by decide +kernel
theorem dX6_holdRow_33 : decode cX6_holdRow 33 = .ok (.iadd, 1) := by decide +kernel
theorem dX6_holdRow_34 : decode cX6_holdRow 34 = .ok (.lconst 0, 1) := by decide +kernel
theorem dX6_holdRow_35 : decode cX6_holdRow 35 = .ok (.lastore, 1) := by decide +kernel
theorem dX6_holdRow_36 : decode cX6_holdRow 36 = .ok (.iinc 4 1, 3) := by decide +kernel
theorem dX6_holdRow_39 : decode cX6_holdRow 39 = .ok (.goto (-22), 3) := by decide +kernel
theorem dX6_holdRow_42 : decode cX6_holdRow 42 = .ok (.return_, 1) := by decide +kernel
def m_X6_holdRow_17 : Nat → Int32 → Int32 → Int32 → Mm → Option (Int32 × Mm)
  | 0, _, _, _, _ => none
  | n + 1, x1, x3, x4, g => (if x3 ≤ x4 then some ((0 : Int32), g) else gdd (ixo ((x1 * (60 : Int32)) + x4) 360) (m_X6_holdRow_17 n x1 x3 (x4 + (1 : Int32)) (wrL g 39 ((x1 * (60 : Int32)) + x4).toNatClampNeg (0 : Int64))))
set_option maxHeartbeats 2000000 in
theorem t_X6_holdRow_17 {r2 : Int32} {g2 : Mm} (X : gx_X p R s m args meth c D al cI cJ A RX6 cX6_holdRow 5 none d 0 0) (hd : 1 ≤ d) : ∀ (n : Nat) (x1 : Int32) (x3 : Int32) (x4 : Int32) (g : Mm), m_X6_holdRow_17 n x1 x3 x4 g = some (r2, g2) → gx_G p l e R s m args below meth c (gx_Q below args s D al cI cJ A none g2) D al cI cJ A 5 0 0 17 [(0, .ref (al (35))), (1, .int (x1)), (3, .int (x3)), (4, .int (x4))] [] g := by
  intro n
  induction n with
  | zero => intro x1 x3 x4 g h; cases h
  | succ n ih =>
    intro x1 x3 x4 g h
    rw [m_X6_holdRow_17] at h
    refine gx_iload X 3 rfl dX6_holdRow_17 ?_
    refine gx_iload_n X 2 rfl dX6_holdRow_19 ?_
    refine gx_icmp_ge X 42 dX6_holdRow_20 (by decide) (fun q1 => ?_) (fun q1 => ?_)
    · replace h := (if_pos q1).symm.trans h
      obtain ⟨rfl, rfl⟩ := ret_eq h
      exact gx_vret X dX6_holdRow_42
    · replace h := (if_neg q1).symm.trans h
      refine gx_aload_n X 0 rfl dX6_holdRow_23 ?_
      refine gx_getf X (35) lf_X6_21 (by decide) (cl_35 _ _) (v := .ref (al (39))) rfl dX6_holdRow_24 ?_
      refine gx_iload_n X 1 rfl dX6_holdRow_27 ?_
      refine gx_bipush X (v := (60 : Int32)) dX6_holdRow_28 (by decide) ?_
      refine gx_imul X dX6_holdRow_30 ?_
      refine gx_iload X 3 rfl dX6_holdRow_31 ?_
      refine gx_iadd X dX6_holdRow_33 ?_
      refine gx_lconst X (v := (0 : Int64)) dX6_holdRow_34 (by decide) ?_
      obtain ⟨q2, h⟩ := gdd_eq h
      refine gx_last X (39) 360 (by decide) (fun r => cl_39 _ r) q2 dX6_holdRow_35 ?_
      refine gx_iinc X [(4, .int ((x4 + (1 : Int32)))), (0, .ref (al (35))), (1, .int (x1)), (3, .int (x3))] 3 dX6_holdRow_36 rfl rfl (by decide) rfl ?_
      refine gx_goto X 17 dX6_holdRow_39 (by decide) ?_
      exact gx_sub [1, 2, 3, 0] rfl (ih x1 x3 (x4 + (1 : Int32)) (wrL g 39 ((x1 * (60 : Int32)) + x4).toNatClampNeg (0 : Int64)) h)
def m_X6_holdRow (a1 : Int32) (a2 : Int32) (a3 : Int32) (g : Mm) : Option (Int32 × Mm) := gdd (ixo a1 6) (gdd (ixo a1 6) (m_X6_holdRow_17 fuL a1 a3 (0 : Int32) (wrI (wrI g 36 a1.toNatClampNeg a2) 38 a1.toNatClampNeg a3)))
set_option maxHeartbeats 2000000 in
theorem c_X6_holdRow {r2 : Int32} {g g2 : Mm} {a1 : Int32} {a2 : Int32} {a3 : Int32} (h : m_X6_holdRow a1 a2 a3 g = some (r2, g2)) : gx_M 1 yX6_holdRow cX6_holdRow 5 none (fun al => [.ref (al (35)), .int (a1), .int (a2), .int (a3)]) g none g2 := by
  have hd : 1 ≤ 1 := Nat.le_refl _
  refine gx_M.of (by decide +kernel) (fun _ => Nat.le_of_ble_eq_true rfl) ?_
  intro p l e R s m args below meth c D al cI cJ A X
  refine gx_eq (pc' := 0) (ls' := [(0, .ref (al (35))), (1, .int (a1)), (2, .int (a2)), (3, .int (a3))]) (st' := []) (g' := g) ⟨rfl, rfl, rfl, rfl⟩ ?_
  unfold m_X6_holdRow at h
  refine gx_aload_n X 0 rfl dX6_holdRow_0 ?_
  refine gx_getf X (35) lf_X6_11 (by decide) (cl_35 _ _) (v := .ref (al (36))) rfl dX6_holdRow_1 ?_
  refine gx_iload_n X 1 rfl dX6_holdRow_4 ?_
  refine gx_iload_n X 2 rfl dX6_holdRow_5 ?_
  obtain ⟨q1, h⟩ := gdd_eq h
  refine gx_iast X (36) 6 (by decide) (fun r => cl_36 r _) q1 dX6_holdRow_6 ?_
  refine gx_aload_n X 0 rfl dX6_holdRow_7 ?_
  refine gx_getf X (35) lf_X6_18 (by decide) (cl_35 _ _) (v := .ref (al (38))) rfl dX6_holdRow_8 ?_
  refine gx_iload_n X 1 rfl dX6_holdRow_11 ?_
  refine gx_iload_n X 3 rfl dX6_holdRow_12 ?_
  obtain ⟨q2, h⟩ := gdd_eq h
  refine gx_iast X (38) 6 (by decide) (fun r => cl_38 r _) q2 dX6_holdRow_13 ?_
  refine gx_iconst X (v := (0 : Int32)) dX6_holdRow_14 (by decide) ?_
  refine gx_istore X [(4, .int ((0 : Int32))), (0, .ref (al (35))), (1, .int (a1)), (2, .int (a2)), (3, .int (a3))] dX6_holdRow_15 (by decide) rfl ?_
  exact gx_sub [1, 2, 4, 0] rfl (t_X6_holdRow_17 X hd fuL a1 a3 (0 : Int32) (wrI (wrI g 36 a1.toNatClampNeg a2) 38 a1.toNatClampNeg a3) h)
theorem dX6_holdTable_0 : decode cX6_holdTable 0 = .ok (.aload_n 0, 1) := by decide +kernel
theorem dX6_holdTable_1 : decode cX6_holdTable 1 = .ok (.getfield 11, 3) := by decide +kernel
theorem dX6_holdTable_4 : decode cX6_holdTable 4 = .ok (.iload_n 1, 1) := by decide +kernel
theorem dX6_holdTable_5 : decode cX6_holdTable 5 = .ok (.iconst 5, 1) := by decide +kernel
theorem dX6_holdTable_6 : decode cX6_holdTable 6 = .ok (.iastore, 1) := by decide +kernel
theorem dX6_holdTable_7 : decode cX6_holdTable 7 = .ok (.aload_n 0, 1) := by decide +kernel
theorem dX6_holdTable_8 : decode cX6_holdTable 8 = .ok (.getfield 18, 3) := by decide +kernel
theorem dX6_holdTable_11 : decode cX6_holdTable 11 = .ok (.iload_n 1, 1) := by decide +kernel
theorem dX6_holdTable_12 : decode cX6_holdTable 12 = .ok (.iconst 0, 1) := by decide +kernel
theorem dX6_holdTable_13 : decode cX6_holdTable 13 = .ok (.iastore, 1) := by decide +kernel
theorem dX6_holdTable_14 : decode cX6_holdTable 14 = .ok (.aload_n 0, 1) := by decide +kernel
theorem dX6_holdTable_15 : decode cX6_holdTable 15 = .ok (.getfield 15, 3) := by decide +kernel
theorem dX6_holdTable_18 : decode cX6_holdTable 18 = .ok (.iload_n 1, 1) := by decide +kernel
theorem dX6_holdTable_19 : decode cX6_holdTable 19 = .ok (.iload_n 2, 1) := by decide +kernel
theorem dX6_holdTable_20 : decode cX6_holdTable 20 = .ok (.iastore, 1) := by decide +kernel
theorem dX6_holdTable_21 : decode cX6_holdTable 21 = .ok (.return_, 1) := by decide +kernel
def m_X6_holdTable (a1 : Int32) (a2 : Int32) (g : Mm) : Option (Int32 × Mm) := gdd (ixo a1 6) (gdd (ixo a1 6) (gdd (ixo a1 6) (some ((0 : Int32), (wrI (wrI (wrI g 36 a1.toNatClampNeg (5 : Int32)) 38 a1.toNatClampNeg (0 : Int32)) 37 a1.toNatClampNeg a2)))))
set_option maxHeartbeats 2000000 in
theorem c_X6_holdTable {r2 : Int32} {g g2 : Mm} {a1 : Int32} {a2 : Int32} (h : m_X6_holdTable a1 a2 g = some (r2, g2)) : gx_M 1 yX6_holdTable cX6_holdTable 3 none (fun al => [.ref (al (35)), .int (a1), .int (a2)]) g none g2 := by
  have hd : 1 ≤ 1 := Nat.le_refl _
  refine gx_M.of (by decide +kernel) (fun _ => Nat.le_of_ble_eq_true rfl) ?_
  intro p l e R s m args below meth c D al cI cJ A X
  refine gx_eq (pc' := 0) (ls' := [(0, .ref (al (35))), (1, .int (a1)), (2, .int (a2))]) (st' := []) (g' := g) ⟨rfl, rfl, rfl, rfl⟩ ?_
  unfold m_X6_holdTable at h
  refine gx_aload_n X 0 rfl dX6_holdTable_0 ?_
  refine gx_getf X (35) lf_X6_11 (by decide) (cl_35 _ _) (v := .ref (al (36))) rfl dX6_holdTable_1 ?_
  refine gx_iload_n X 1 rfl dX6_holdTable_4 ?_
  refine gx_iconst X (v := (5 : Int32)) dX6_holdTable_5 (by decide) ?_
  obtain ⟨q1, h⟩ := gdd_eq h
  refine gx_iast X (36) 6 (by decide) (fun r => cl_36 r _) q1 dX6_holdTable_6 ?_
  refine gx_aload_n X 0 rfl dX6_holdTable_7 ?_
  refine gx_getf X (35) lf_X6_18 (by decide) (cl_35 _ _) (v := .ref (al (38))) rfl dX6_holdTable_8 ?_
  refine gx_iload_n X 1 rfl dX6_holdTable_11 ?_
  refine gx_iconst X (v := (0 : Int32)) dX6_holdTable_12 (by decide) ?_
  obtain ⟨q2, h⟩ := gdd_eq h
  refine gx_iast X (38) 6 (by decide) (fun r => cl_38 r _) q2 dX6_holdTable_13 ?_
  refine gx_aload_n X 0 rfl dX6_holdTable_14 ?_
  refine gx_getf X (35) lf_X6_15 (by decide) (cl_35 _ _) (v := .ref (al (37))) rfl dX6_holdTable_15 ?_
  refine gx_iload_n X 1 rfl dX6_holdTable_18 ?_
  refine gx_iload_n X 2 rfl dX6_holdTable_19 ?_
  obtain ⟨q3, h⟩ := gdd_eq h
  refine gx_iast X (37) 6 (by decide) (fun r => cl_37 r _) q3 dX6_holdTable_20 ?_
  obtain ⟨rfl, rfl⟩ := ret_eq h
  exact gx_vret X dX6_holdTable_21
theorem dX6_holdsARow_0 : decode cX6_holdsARow 0 = .ok (.aload_n 0, 1) := by decide +kernel
theorem dX6_holdsARow_1 : decode cX6_holdsARow 1 = .ok (.getfield 11, 3) := by decide +kernel
theorem dX6_holdsARow_4 : decode cX6_holdsARow 4 = .ok (.iload_n 1, 1) := by decide +kernel
theorem dX6_holdsARow_5 : decode cX6_holdsARow 5 = .ok (.iaload, 1) := by decide +kernel
theorem dX6_holdsARow_6 : decode cX6_holdsARow 6 = .ok (.iconst 5, 1) := by decide +kernel
theorem dX6_holdsARow_7 : decode cX6_holdsARow 7 = .ok (.if_icmp .eq 17, 3) := by decide +kernel
theorem dX6_holdsARow_10 : decode cX6_holdsARow 10 = .ok (.aload_n 0, 1) := by decide +kernel
theorem dX6_holdsARow_11 : decode cX6_holdsARow 11 = .ok (.getfield 11, 3) := by decide +kernel
theorem dX6_holdsARow_14 : decode cX6_holdsARow 14 = .ok (.iload_n 1, 1) := by decide +kernel
theorem dX6_holdsARow_15 : decode cX6_holdsARow 15 = .ok (.iaload, 1) := by decide +kernel
theorem dX6_holdsARow_16 : decode cX6_holdsARow 16 = .ok (.iconst (-1), 1) := by decide +kernel
theorem dX6_holdsARow_17 : decode cX6_holdsARow 17 = .ok (.if_icmp .eq 7, 3) := by decide +kernel
theorem dX6_holdsARow_20 : decode cX6_holdsARow 20 = .ok (.iconst 1, 1) := by decide +kernel
theorem dX6_holdsARow_21 : decode cX6_holdsARow 21 = .ok (.goto 4, 3) := by decide +kernel
theorem dX6_holdsARow_24 : decode cX6_holdsARow 24 = .ok (.iconst 0, 1) := by decide +kernel
theorem dX6_holdsARow_25 : decode cX6_holdsARow 25 = .ok (.ireturn, 1) := by decide +kernel
def m_X6_holdsARow (a1 : Int32) (g : Mm) : Option (Int32 × Mm) := gdd (ixo a1 6) ((if (rdI g 36 a1.toNatClampNeg) = (5 : Int32) then some ((0 : Int32), g) else gdd (ixo a1 6) ((if (rdI g 36 a1.toNatClampNeg) = (-1 : Int32) then some ((0 : Int32), g) else some ((1 : Int32), g)))))
set_option maxHeartbeats 2000000 in
theorem c_X6_holdsARow {r2 : Int32} {g g2 : Mm} {a1 : Int32} (h : m_X6_holdsARow a1 g = some (r2, g2)) : gx_M 1 yX6_holdsARow cX6_holdsARow 2 (some .boolean) (fun al => [.ref (al (35)), .int (a1)]) g (some (.int r2)) g2 := by
  have hd : 1 ≤ 1 := Nat.le_refl _
  refine gx_M.of (by decide +kernel) (fun _ => Nat.le_of_ble_eq_true rfl) ?_
  intro p l e R s m args below meth c D al cI cJ A X
  refine gx_eq (pc' := 0) (ls' := [(0, .ref (al (35))), (1, .int (a1))]) (st' := []) (g' := g) ⟨rfl, rfl, rfl, rfl⟩ ?_
  unfold m_X6_holdsARow at h
  refine gx_aload_n X 0 rfl dX6_holdsARow_0 ?_
  refine gx_getf X (35) lf_X6_11 (by decide) (cl_35 _ _) (v := .ref (al (36))) rfl dX6_holdsARow_1 ?_
  refine gx_iload_n X 1 rfl dX6_holdsARow_4 ?_
  obtain ⟨q1, h⟩ := gdd_eq h
  refine gx_iald X (36) 6 (by decide) (cl_36 _ _) q1 dX6_holdsARow_5 ?_
  refine gx_iconst X (v := (5 : Int32)) dX6_holdsARow_6 (by decide) ?_
  refine gx_icmp_eq X 24 dX6_holdsARow_7 (by decide) (fun q2 => ?_) (fun q2 => ?_)
  · replace h := (if_pos q2).symm.trans h
    refine gx_iconst X (v := (0 : Int32)) dX6_holdsARow_24 (by decide) ?_
    obtain ⟨rfl, rfl⟩ := ret_eq h
    exact gx_iret X rfl dX6_holdsARow_25
  · replace h := (if_neg q2).symm.trans h
    refine gx_aload_n X 0 rfl dX6_holdsARow_10 ?_
    refine gx_getf X (35) lf_X6_11 (by decide) (cl_35 _ _) (v := .ref (al (36))) rfl dX6_holdsARow_11 ?_
    refine gx_iload_n X 1 rfl dX6_holdsARow_14 ?_
    obtain ⟨q3, h⟩ := gdd_eq h
    refine gx_iald X (36) 6 (by decide) (cl_36 _ _) q3 dX6_holdsARow_15 ?_
    refine gx_iconst X (v := (-1 : Int32)) dX6_holdsARow_16 (by decide) ?_
    refine gx_icmp_eq X 24 dX6_holdsARow_17 (by decide) (fun q4 => ?_) (fun q4 => ?_)
    · replace h := (if_pos q4).symm.trans h
      refine gx_iconst X (v := (0 : Int32)) dX6_holdsARow_24 (by decide) ?_
      obtain ⟨rfl, rfl⟩ := ret_eq h
      exact gx_iret X rfl dX6_holdsARow_25
    · replace h := (if_neg q4).symm.trans h
      refine gx_iconst X (v := (1 : Int32)) dX6_holdsARow_20 (by decide) ?_
      refine gx_goto X 25 dX6_holdsARow_21 (by decide) ?_
      obtain ⟨rfl, rfl⟩ := ret_eq h
      exact gx_iret X rfl dX6_holdsARow_25
theorem dX6_holdsATable_0 : decode cX6_holdsATable 0 = .ok (.aload_n 0, 1) := by decide +kernel
theorem dX6_holdsATable_1 : decode cX6_holdsATable 1 = .ok (.getfield 11, 3) := by decide +kernel
theorem dX6_holdsATable_4 : decode cX6_holdsATable 4 = .ok (.iload_n 1, 1) := by decide +kernel
theorem dX6_holdsATable_5 : decode cX6_holdsATable 5 = .ok (.iaload, 1) := by decide +kernel
theorem dX6_holdsATable_6 : decode cX6_holdsATable 6 = .ok (.iconst 5, 1) := by decide +kernel
theorem dX6_holdsATable_7 : decode cX6_holdsATable 7 = .ok (.if_icmp .ne 7, 3) := by decide +kernel
theorem dX6_holdsATable_10 : decode cX6_holdsATable 10 = .ok (.iconst 1, 1) := by decide +kernel
theorem dX6_holdsATable_11 : decode cX6_holdsATable 11 = .ok (.goto 4, 3) := by decide +kernel
theorem dX6_holdsATable_14 : decode cX6_holdsATable 14 = .ok (.iconst 0, 1) := by decide +kernel
theorem dX6_holdsATable_15 : decode cX6_holdsATable 15 = .ok (.ireturn, 1) := by decide +kernel
def m_X6_holdsATable (a1 : Int32) (g : Mm) : Option (Int32 × Mm) := gdd (ixo a1 6) ((if (rdI g 36 a1.toNatClampNeg) = (5 : Int32) then some ((1 : Int32), g) else some ((0 : Int32), g)))
set_option maxHeartbeats 2000000 in
theorem c_X6_holdsATable {r2 : Int32} {g g2 : Mm} {a1 : Int32} (h : m_X6_holdsATable a1 g = some (r2, g2)) : gx_M 1 yX6_holdsATable cX6_holdsATable 2 (some .boolean) (fun al => [.ref (al (35)), .int (a1)]) g (some (.int r2)) g2 := by
  have hd : 1 ≤ 1 := Nat.le_refl _
  refine gx_M.of (by decide +kernel) (fun _ => Nat.le_of_ble_eq_true rfl) ?_
  intro p l e R s m args below meth c D al cI cJ A X
  refine gx_eq (pc' := 0) (ls' := [(0, .ref (al (35))), (1, .int (a1))]) (st' := []) (g' := g) ⟨rfl, rfl, rfl, rfl⟩ ?_
  unfold m_X6_holdsATable at h
  refine gx_aload_n X 0 rfl dX6_holdsATable_0 ?_
  refine gx_getf X (35) lf_X6_11 (by decide) (cl_35 _ _) (v := .ref (al (36))) rfl dX6_holdsATable_1 ?_
  refine gx_iload_n X 1 rfl dX6_holdsATable_4 ?_
  obtain ⟨q1, h⟩ := gdd_eq h
  refine gx_iald X (36) 6 (by decide) (cl_36 _ _) q1 dX6_holdsATable_5 ?_
  refine gx_iconst X (v := (5 : Int32)) dX6_holdsATable_6 (by decide) ?_
  refine gx_icmp_ne X 14 dX6_holdsATable_7 (by decide) (fun q2 => ?_) (fun q2 => ?_)
  · replace h := (if_neg q2).symm.trans h
    refine gx_iconst X (v := (0 : Int32)) dX6_holdsATable_14 (by decide) ?_
    obtain ⟨rfl, rfl⟩ := ret_eq h
    exact gx_iret X rfl dX6_holdsATable_15
  · replace h := (if_pos q2).symm.trans h
    refine gx_iconst X (v := (1 : Int32)) dX6_holdsATable_10 (by decide) ?_
    refine gx_goto X 15 dX6_holdsATable_11 (by decide) ?_
    obtain ⟨rfl, rfl⟩ := ret_eq h
    exact gx_iret X rfl dX6_holdsATable_15
theorem dX6_holdsBytes_0 : decode cX6_holdsBytes 0 = .ok (.aload_n 0, 1) := by decide +kernel
theorem dX6_holdsBytes_1 : decode cX6_holdsBytes 1 = .ok (.getfield 11, 3) := by decide +kernel
theorem dX6_holdsBytes_4 : decode cX6_holdsBytes 4 = .ok (.iload_n 1, 1) := by decide +kernel
theorem dX6_holdsBytes_5 : decode cX6_holdsBytes 5 = .ok (.iaload, 1) := by decide +kernel
theorem dX6_holdsBytes_6 : decode cX6_holdsBytes 6 = .ok (.ifCond .ne 7, 3) := by decide +kernel
theorem dX6_holdsBytes_9 : decode cX6_holdsBytes 9 = .ok (.iconst 1, 1) := by decide +kernel
theorem dX6_holdsBytes_10 : decode cX6_holdsBytes 10 = .ok (.goto 4, 3) := by decide +kernel
theorem dX6_holdsBytes_13 : decode cX6_holdsBytes 13 = .ok (.iconst 0, 1) := by decide +kernel
theorem dX6_holdsBytes_14 : decode cX6_holdsBytes 14 = .ok (.ireturn, 1) := by decide +kernel
def m_X6_holdsBytes (a1 : Int32) (g : Mm) : Option (Int32 × Mm) := gdd (ixo a1 6) ((if (rdI g 36 a1.toNatClampNeg) = (0 : Int32) then some ((1 : Int32), g) else some ((0 : Int32), g)))
set_option maxHeartbeats 2000000 in
theorem c_X6_holdsBytes {r2 : Int32} {g g2 : Mm} {a1 : Int32} (h : m_X6_holdsBytes a1 g = some (r2, g2)) : gx_M 1 yX6_holdsBytes cX6_holdsBytes 2 (some .boolean) (fun al => [.ref (al (35)), .int (a1)]) g (some (.int r2)) g2 := by
  have hd : 1 ≤ 1 := Nat.le_refl _
  refine gx_M.of (by decide +kernel) (fun _ => Nat.le_of_ble_eq_true rfl) ?_
  intro p l e R s m args below meth c D al cI cJ A X
  refine gx_eq (pc' := 0) (ls' := [(0, .ref (al (35))), (1, .int (a1))]) (st' := []) (g' := g) ⟨rfl, rfl, rfl, rfl⟩ ?_
  unfold m_X6_holdsBytes at h
  refine gx_aload_n X 0 rfl dX6_holdsBytes_0 ?_
  refine gx_getf X (35) lf_X6_11 (by decide) (cl_35 _ _) (v := .ref (al (36))) rfl dX6_holdsBytes_1 ?_
  refine gx_iload_n X 1 rfl dX6_holdsBytes_4 ?_
  obtain ⟨q1, h⟩ := gdd_eq h
  refine gx_iald X (36) 6 (by decide) (cl_36 _ _) q1 dX6_holdsBytes_5 ?_
  refine gx_if_ne X 13 dX6_holdsBytes_6 (by decide) (fun q2 => ?_) (fun q2 => ?_)
  · replace h := (if_neg q2).symm.trans h
    refine gx_iconst X (v := (0 : Int32)) dX6_holdsBytes_13 (by decide) ?_
    obtain ⟨rfl, rfl⟩ := ret_eq h
    exact gx_iret X rfl dX6_holdsBytes_14
  · replace h := (if_pos q2).symm.trans h
    refine gx_iconst X (v := (1 : Int32)) dX6_holdsBytes_9 (by decide) ?_
    refine gx_goto X 14 dX6_holdsBytes_10 (by decide) ?_
    obtain ⟨rfl, rfl⟩ := ret_eq h
    exact gx_iret X rfl dX6_holdsBytes_14
theorem dX6_isBare_0 : decode cX6_isBare 0 = .ok (.aload_n 0, 1) := by decide +kernel
theorem dX6_isBare_1 : decode cX6_isBare 1 = .ok (.getfield 11, 3) := by decide +kernel
theorem dX6_isBare_4 : decode cX6_isBare 4 = .ok (.iload_n 1, 1) := by decide +kernel
theorem dX6_isBare_5 : decode cX6_isBare 5 = .ok (.iaload, 1) := by decide +kernel
theorem dX6_isBare_6 : decode cX6_isBare 6 = .ok (.iconst (-1), 1) := by decide +kernel
theorem dX6_isBare_7 : decode cX6_isBare 7 = .ok (.if_icmp .ne 7, 3) := by decide +kernel
theorem dX6_isBare_10 : decode cX6_isBare 10 = .ok (.iconst 1, 1) := by decide +kernel
theorem dX6_isBare_11 : decode cX6_isBare 11 = .ok (.goto 4, 3) := by decide +kernel
theorem dX6_isBare_14 : decode cX6_isBare 14 = .ok (.iconst 0, 1) := by decide +kernel
theorem dX6_isBare_15 : decode cX6_isBare 15 = .ok (.ireturn, 1) := by decide +kernel
def m_X6_isBare (a1 : Int32) (g : Mm) : Option (Int32 × Mm) := gdd (ixo a1 6) ((if (rdI g 36 a1.toNatClampNeg) = (-1 : Int32) then some ((1 : Int32), g) else some ((0 : Int32), g)))
set_option maxHeartbeats 2000000 in
theorem c_X6_isBare {r2 : Int32} {g g2 : Mm} {a1 : Int32} (h : m_X6_isBare a1 g = some (r2, g2)) : gx_M 1 yX6_isBare cX6_isBare 2 (some .boolean) (fun al => [.ref (al (35)), .int (a1)]) g (some (.int r2)) g2 := by
  have hd : 1 ≤ 1 := Nat.le_refl _
  refine gx_M.of (by decide +kernel) (fun _ => Nat.le_of_ble_eq_true rfl) ?_
  intro p l e R s m args below meth c D al cI cJ A X
  refine gx_eq (pc' := 0) (ls' := [(0, .ref (al (35))), (1, .int (a1))]) (st' := []) (g' := g) ⟨rfl, rfl, rfl, rfl⟩ ?_
  unfold m_X6_isBare at h
  refine gx_aload_n X 0 rfl dX6_isBare_0 ?_
  refine gx_getf X (35) lf_X6_11 (by decide) (cl_35 _ _) (v := .ref (al (36))) rfl dX6_isBare_1 ?_
  refine gx_iload_n X 1 rfl dX6_isBare_4 ?_
  obtain ⟨q1, h⟩ := gdd_eq h
  refine gx_iald X (36) 6 (by decide) (cl_36 _ _) q1 dX6_isBare_5 ?_
  refine gx_iconst X (v := (-1 : Int32)) dX6_isBare_6 (by decide) ?_
  refine gx_icmp_ne X 14 dX6_isBare_7 (by decide) (fun q2 => ?_) (fun q2 => ?_)
  · replace h := (if_neg q2).symm.trans h
    refine gx_iconst X (v := (0 : Int32)) dX6_isBare_14 (by decide) ?_
    obtain ⟨rfl, rfl⟩ := ret_eq h
    exact gx_iret X rfl dX6_isBare_15
  · replace h := (if_pos q2).symm.trans h
    refine gx_iconst X (v := (1 : Int32)) dX6_isBare_10 (by decide) ?_
    refine gx_goto X 15 dX6_isBare_11 (by decide) ?_
    obtain ⟨rfl, rfl⟩ := ret_eq h
    exact gx_iret X rfl dX6_isBare_15
theorem dX6_lowestBits_0 : decode cX6_lowestBits 0 = .ok (.iload_n 0, 1) := by decide +kernel
theorem dX6_lowestBits_1 : decode cX6_lowestBits 1 = .ok (.tableswitch 61 0 4 #[35, 40, 45, 61, 49], 35) := by decide +kernel
theorem dX6_lowestBits_36 : decode cX6_lowestBits 36 = .ok (.lload_n 1, 1) := by decide +kernel
theorem dX6_lowestBits_37 : decode cX6_lowestBits 37 = .ok (.l2i, 1) := by decide +kernel
theorem dX6_lowestBits_38 : decode cX6_lowestBits 38 = .ok (.i2b, 1) := by decide +kernel
theorem dX6_lowestBits_39 : decode cX6_lowestBits 39 = .ok (.i2l, 1) := by decide +kernel
theorem dX6_lowestBits_40 : decode cX6_lowestBits 40 = .ok (.lreturn, 1) := by decide +kernel
theorem dX6_lowestBits_41 : decode cX6_lowestBits 41 = .ok (.lload_n 1, 1) := by decide +kernel
theorem dX6_lowestBits_42 : decode cX6_lowestBits 42 = .ok (.l2i, 1) := by decide +kernel
theorem dX6_lowestBits_43 : decode cX6_lowestBits 43 = .ok (.i2s, 1) := by decide +kernel
theorem dX6_lowestBits_44 : decode cX6_lowestBits 44 = .ok (.i2l, 1) := by decide +kernel
theorem dX6_lowestBits_45 : decode cX6_lowestBits 45 = .ok (.lreturn, 1) := by decide +kernel
theorem dX6_lowestBits_46 : decode cX6_lowestBits 46 = .ok (.lload_n 1, 1) := by decide +kernel
theorem dX6_lowestBits_47 : decode cX6_lowestBits 47 = .ok (.l2i, 1) := by decide +kernel
theorem dX6_lowestBits_48 : decode cX6_lowestBits 48 = .ok (.i2l, 1) := by decide +kernel
theorem dX6_lowestBits_49 : decode cX6_lowestBits 49 = .ok (.lreturn, 1) := by decide +kernel
theorem dX6_lowestBits_50 : decode cX6_lowestBits 50 = .ok (.lload_n 1, 1) := by decide +kernel
theorem dX6_lowestBits_51 : decode cX6_lowestBits 51 = .ok (.lconst 0, 1) := by decide +kernel
theorem dX6_lowestBits_52 : decode cX6_lowestBits 52 = .ok (.lcmp, 1) := by decide +kernel
theorem dX6_lowestBits_53 : decode cX6_lowestBits 53 = .ok (.ifCond .eq 7, 3) := by decide +kernel
theorem dX6_lowestBits_56 : decode cX6_lowestBits 56 = .ok (.lconst 1, 1) := by decide +kernel
theorem dX6_lowestBits_57 : decode cX6_lowestBits 57 = .ok (.goto 4, 3) := by decide +kernel
theorem dX6_lowestBits_60 : decode cX6_lowestBits 60 = .ok (.lconst 0, 1) := by decide +kernel
theorem dX6_lowestBits_61 : decode cX6_lowestBits 61 = .ok (.lreturn, 1) := by decide +kernel
theorem dX6_lowestBits_62 : decode cX6_lowestBits 62 = .ok (.lload_n 1, 1) := by decide +kernel
theorem dX6_lowestBits_63 : decode cX6_lowestBits 63 = .ok (.lreturn, 1) := by decide +kernel
def m_X6_lowestBits (a0 : Int32) (a1 : Int64) (g : Mm) : Option (Int64 × Mm) := (if a0 = (0 : Int32) then some (((a1.toInt32).toInt8.toInt32).toInt64, g) else if a0 = (1 : Int32) then some (((a1.toInt32).toInt16.toInt32).toInt64, g) else if a0 = (2 : Int32) then some ((a1.toInt32).toInt64, g) else if a0 = (3 : Int32) then some (a1, g) else if a0 = (4 : Int32) then (if (lg_cmp a1 (0 : Int64)) = (0 : Int32) then some ((0 : Int64), g) else some ((1 : Int64), g)) else some (a1, g))
set_option maxHeartbeats 2000000 in
theorem c_X6_lowestBits {r2 : Int64} {g g2 : Mm} {a0 : Int32} {a1 : Int64} (h : m_X6_lowestBits a0 a1 g = some (r2, g2)) : gx_M 1 yX6_lowestBits cX6_lowestBits 3 (some .long) (fun al => [.int (a0), .long (a1)]) g (some (.long r2)) g2 := by
  have hd : 1 ≤ 1 := Nat.le_refl _
  refine gx_M.of (by decide +kernel) (fun _ => Nat.le_of_ble_eq_true rfl) ?_
  intro p l e R s m args below meth c D al cI cJ A X
  refine gx_eq (pc' := 0) (ls' := [(0, .int (a0)), (1, .long (a1))]) (st' := []) (g' := g) ⟨rfl, rfl, rfl, rfl⟩ ?_
  unfold m_X6_lowestBits at h
  refine gx_iload_n X 0 rfl dX6_lowestBits_0 ?_
  by_cases q1 : a0 = (0 : Int32)
  · replace h := (if_pos q1).symm.trans h
    have eq1 : (a0).toInt = 0 := by rw [q1] <;> decide
    refine gx_tab 36 X dX6_lowestBits_1 (by rw [eq1] <;> decide) (by rw [eq1] <;> decide) (by rw [eq1] <;> rfl) (by decide) ?_
    refine gx_lload_n X 1 rfl dX6_lowestBits_36 ?_
    refine gx_l2i X dX6_lowestBits_37 ?_
    refine gx_i2b X dX6_lowestBits_38 ?_
    refine gx_i2l X dX6_lowestBits_39 ?_
    obtain ⟨rfl, rfl⟩ := ret_eq h
    exact gx_lret X dX6_lowestBits_40
  · replace h := (if_neg q1).symm.trans h
    by_cases q2 : a0 = (1 : Int32)
    · replace h := (if_pos q2).symm.trans h
      have eq2 : (a0).toInt = 1 := by rw [q2] <;> decide
      refine gx_tab 41 X dX6_lowestBits_1 (by rw [eq2] <;> decide) (by rw [eq2] <;> decide) (by rw [eq2] <;> rfl) (by decide) ?_
      refine gx_lload_n X 1 rfl dX6_lowestBits_41 ?_
      refine gx_l2i X dX6_lowestBits_42 ?_
      refine gx_i2s X dX6_lowestBits_43 ?_
      refine gx_i2l X dX6_lowestBits_44 ?_
      obtain ⟨rfl, rfl⟩ := ret_eq h
      exact gx_lret X dX6_lowestBits_45
    · replace h := (if_neg q2).symm.trans h
      by_cases q3 : a0 = (2 : Int32)
      · replace h := (if_pos q3).symm.trans h
        have eq3 : (a0).toInt = 2 := by rw [q3] <;> decide
        refine gx_tab 46 X dX6_lowestBits_1 (by rw [eq3] <;> decide) (by rw [eq3] <;> decide) (by rw [eq3] <;> rfl) (by decide) ?_
        refine gx_lload_n X 1 rfl dX6_lowestBits_46 ?_
        refine gx_l2i X dX6_lowestBits_47 ?_
        refine gx_i2l X dX6_lowestBits_48 ?_
        obtain ⟨rfl, rfl⟩ := ret_eq h
        exact gx_lret X dX6_lowestBits_49
      · replace h := (if_neg q3).symm.trans h
        by_cases q4 : a0 = (3 : Int32)
        · replace h := (if_pos q4).symm.trans h
          have eq4 : (a0).toInt = 3 := by rw [q4] <;> decide
          refine gx_tab 62 X dX6_lowestBits_1 (by rw [eq4] <;> decide) (by rw [eq4] <;> decide) (by rw [eq4] <;> rfl) (by decide) ?_
          refine gx_lload_n X 1 rfl dX6_lowestBits_62 ?_
          obtain ⟨rfl, rfl⟩ := ret_eq h
          exact gx_lret X dX6_lowestBits_63
        · replace h := (if_neg q4).symm.trans h
          by_cases q5 : a0 = (4 : Int32)
          · replace h := (if_pos q5).symm.trans h
            have eq5 : (a0).toInt = 4 := by rw [q5] <;> decide
            refine gx_tab 50 X dX6_lowestBits_1 (by rw [eq5] <;> decide) (by rw [eq5] <;> decide) (by rw [eq5] <;> rfl) (by decide) ?_
            refine gx_lload_n X 1 rfl dX6_lowestBits_50 ?_
            refine gx_lconst X (v := (0 : Int64)) dX6_lowestBits_51 (by decide) ?_
            refine gx_lcmp X dX6_lowestBits_52 ?_
            refine gx_if_eq X 60 dX6_lowestBits_53 (by decide) (fun q6 => ?_) (fun q6 => ?_)
            · replace h := (if_pos q6).symm.trans h
              refine gx_lconst X (v := (0 : Int64)) dX6_lowestBits_60 (by decide) ?_
              obtain ⟨rfl, rfl⟩ := ret_eq h
              exact gx_lret X dX6_lowestBits_61
            · replace h := (if_neg q6).symm.trans h
              refine gx_lconst X (v := (1 : Int64)) dX6_lowestBits_56 (by decide) ?_
              refine gx_goto X 61 dX6_lowestBits_57 (by decide) ?_
              obtain ⟨rfl, rfl⟩ := ret_eq h
              exact gx_lret X dX6_lowestBits_61
          · replace h := (if_neg q5).symm.trans h
            have eq1 := lv_neT (a := 0) q1 (by decide)
            have eq2 := lv_neT (a := 1) q2 (by decide)
            have eq3 := lv_neT (a := 2) q3 (by decide)
            have eq4 := lv_neT (a := 3) q4 (by decide)
            have eq5 := lv_neT (a := 4) q5 (by decide)
            refine gx_tabO 62 X dX6_lowestBits_1 (by omega) (by decide) ?_
            refine gx_lload_n X 1 rfl dX6_lowestBits_62 ?_
            obtain ⟨rfl, rfl⟩ := ret_eq h
            exact gx_lret X dX6_lowestBits_63
theorem dX6_refusalAt_0 : decode cX6_refusalAt 0 = .ok (.aload_n 0, 1) := by decide +kernel
theorem dX6_refusalAt_1 : decode cX6_refusalAt 1 = .ok (.iload_n 1, 1) := by decide +kernel
theorem dX6_refusalAt_2 : decode cX6_refusalAt 2 = .ok (.invokevirtual 25, 3) := by decide +kernel
theorem dX6_refusalAt_5 : decode cX6_refusalAt 5 = .ok (.ifCond .ne 5, 3) := by decide +kernel
theorem dX6_refusalAt_8 : decode cX6_refusalAt 8 = .ok (.iconst (-1), 1) := by decide +kernel
theorem dX6_refusalAt_9 : decode cX6_refusalAt 9 = .ok (.ireturn, 1) := by decide +kernel
theorem dX6_refusalAt_10 : decode cX6_refusalAt 10 = .ok (.aload_n 0, 1) := by decide +kernel
theorem dX6_refusalAt_11 : decode cX6_refusalAt 11 = .ok (.iload_n 1, 1) := by decide +kernel
theorem dX6_refusalAt_12 : decode cX6_refusalAt 12 = .ok (.invokevirtual 29, 3) := by decide +kernel
theorem dX6_refusalAt_15 : decode cX6_refusalAt 15 = .ok (.ifCond .eq 6, 3) := by decide +kernel
theorem dX6_refusalAt_18 : decode cX6_refusalAt 18 = .ok (.bipush (-11), 2) := by decide +kernel
theorem dX6_refusalAt_20 : decode cX6_refusalAt 20 = .ok (.ireturn, 1) := by decide +kernel
theorem dX6_refusalAt_21 : decode cX6_refusalAt 21 = .ok (.aload_n 0, 1) := by decide +kernel
theorem dX6_refusalAt_22 : decode cX6_refusalAt 22 = .ok (.iload_n 1, 1) := by decide +kernel
theorem dX6_refusalAt_23 : decode cX6_refusalAt 23 = .ok (.invokevirtual 32, 3) := by decide +kernel
theorem dX6_refusalAt_26 : decode cX6_refusalAt 26 = .ok (.ifCond .ne 6, 3) := by decide +kernel
theorem dX6_refusalAt_29 : decode cX6_refusalAt 29 = .ok (.bipush (-12), 2) := by decide +kernel
theorem dX6_refusalAt_31 : decode cX6_refusalAt 31 = .ok (.ireturn, 1) := by decide +kernel
theorem dX6_refusalAt_32 : decode cX6_refusalAt 32 = .ok (.aload_n 0, 1) := by decide +kernel
theorem dX6_refusalAt_33 : decode cX6_refusalAt 33 = .ok (.iload_n 1, 1) := by decide +kernel
theorem dX6_refusalAt_34 : decode cX6_refusalAt 34 = .ok (.iload_n 2, 1) := by decide +kernel
theorem dX6_refusalAt_35 : decode cX6_refusalAt 35 = .ok (.invokevirtual 35, 3) := by decide +kernel
theorem dX6_refusalAt_38 : decode cX6_refusalAt 38 = .ok (.ifCond .eq 7, 3) := by decide +kernel
theorem dX6_refusalAt_41 : decode cX6_refusalAt 41 = .ok (.iconst 0, 1) := by decide +kernel
theorem dX6_refusalAt_42 : decode cX6_refusalAt 42 = .ok (.goto 5, 3) := by decide +kernel
theorem dX6_refusalAt_45 : decode cX6_refusalAt 45 = .ok (.bipush (-13), 2) := by decide +kernel
theorem dX6_refusalAt_47 : decode cX6_refusalAt 47 = .ok (.ireturn, 1) := by decide +kernel
def m_X6_refusalAt (a1 : Int32) (a2 : Int32) (g : Mm) : Option (Int32 × Mm) := bdd (m_X6_hasShelf a1 g) (fun ra1 ga2 => (if ra1 = (0 : Int32) then some ((-1 : Int32), ga2) else bdd (m_X6_isBare a1 ga2) (fun ra5 ga6 => (if ra5 = (0 : Int32) then bdd (m_X6_holdsARow a1 ga6) (fun ra9 ga10 => (if ra9 = (0 : Int32) then some ((-12 : Int32), ga10) else bdd (m_X6_hasPlace a1 a2 ga10) (fun ra13 ga14 => (if ra13 = (0 : Int32) then some ((-13 : Int32), ga14) else some ((0 : Int32), ga14))))) else some ((-11 : Int32), ga6)))))
set_option maxHeartbeats 2000000 in
theorem c_X6_refusalAt {r2 : Int32} {g g2 : Mm} {a1 : Int32} {a2 : Int32} (h : m_X6_refusalAt a1 a2 g = some (r2, g2)) : gx_M 2 yX6_refusalAt cX6_refusalAt 3 (some .int) (fun al => [.ref (al (35)), .int (a1), .int (a2)]) g (some (.int r2)) g2 := by
  have hd : 2 ≤ 2 := Nat.le_refl _
  refine gx_M.of (by decide +kernel) (fun _ => Nat.le_of_ble_eq_true rfl) ?_
  intro p l e R s m args below meth c D al cI cJ A X
  refine gx_eq (pc' := 0) (ls' := [(0, .ref (al (35))), (1, .int (a1)), (2, .int (a2))]) (st' := []) (g' := g) ⟨rfl, rfl, rfl, rfl⟩ ?_
  unfold m_X6_refusalAt at h
  refine gx_aload_n X 0 rfl dX6_refusalAt_0 ?_
  refine gx_iload_n X 1 rfl dX6_refusalAt_1 ?_
  obtain ⟨ra1, ga2, ca3, h⟩ := bdd_eq h
  refine gx_callVi X (35) (c_X6_hasShelf ca3) lc_X6_hasShelf li_X6_hasShelf lm_X6_25 (by decide) (cl_35 _ _) rfl rfl rfl (Nat.le_trans (by decide) hd) rfl (Nat.le_of_ble_eq_true rfl) dX6_refusalAt_2 ?_
  refine gx_if_ne X 10 dX6_refusalAt_5 (by decide) (fun q4 => ?_) (fun q4 => ?_)
  · replace h := (if_neg q4).symm.trans h
    refine gx_aload_n X 0 rfl dX6_refusalAt_10 ?_
    refine gx_iload_n X 1 rfl dX6_refusalAt_11 ?_
    obtain ⟨ra5, ga6, ca7, h⟩ := bdd_eq h
    refine gx_callVi X (35) (c_X6_isBare ca7) lc_X6_isBare li_X6_isBare lm_X6_29 (by decide) (cl_35 _ _) rfl rfl rfl (Nat.le_trans (by decide) hd) rfl (Nat.le_of_ble_eq_true rfl) dX6_refusalAt_12 ?_
    refine gx_if_eq X 21 dX6_refusalAt_15 (by decide) (fun q8 => ?_) (fun q8 => ?_)
    · replace h := (if_pos q8).symm.trans h
      refine gx_aload_n X 0 rfl dX6_refusalAt_21 ?_
      refine gx_iload_n X 1 rfl dX6_refusalAt_22 ?_
      obtain ⟨ra9, ga10, ca11, h⟩ := bdd_eq h
      refine gx_callVi X (35) (c_X6_holdsARow ca11) lc_X6_holdsARow li_X6_holdsARow lm_X6_32 (by decide) (cl_35 _ _) rfl rfl rfl (Nat.le_trans (by decide) hd) rfl (Nat.le_of_ble_eq_true rfl) dX6_refusalAt_23 ?_
      refine gx_if_ne X 32 dX6_refusalAt_26 (by decide) (fun q12 => ?_) (fun q12 => ?_)
      · replace h := (if_neg q12).symm.trans h
        refine gx_aload_n X 0 rfl dX6_refusalAt_32 ?_
        refine gx_iload_n X 1 rfl dX6_refusalAt_33 ?_
        refine gx_iload_n X 2 rfl dX6_refusalAt_34 ?_
        obtain ⟨ra13, ga14, ca15, h⟩ := bdd_eq h
        refine gx_callVi X (35) (c_X6_hasPlace ca15) lc_X6_hasPlace li_X6_hasPlace lm_X6_35 (by decide) (cl_35 _ _) rfl rfl rfl (Nat.le_trans (by decide) hd) rfl (Nat.le_of_ble_eq_true rfl) dX6_refusalAt_35 ?_
        refine gx_if_eq X 45 dX6_refusalAt_38 (by decide) (fun q16 => ?_) (fun q16 => ?_)
        · replace h := (if_pos q16).symm.trans h
          refine gx_bipush X (v := (-13 : Int32)) dX6_refusalAt_45 (by decide) ?_
          obtain ⟨rfl, rfl⟩ := ret_eq h
          exact gx_iret X rfl dX6_refusalAt_47
        · replace h := (if_neg q16).symm.trans h
          refine gx_iconst X (v := (0 : Int32)) dX6_refusalAt_41 (by decide) ?_
          refine gx_goto X 47 dX6_refusalAt_42 (by decide) ?_
          obtain ⟨rfl, rfl⟩ := ret_eq h
          exact gx_iret X rfl dX6_refusalAt_47
      · replace h := (if_pos q12).symm.trans h
        refine gx_bipush X (v := (-12 : Int32)) dX6_refusalAt_29 (by decide) ?_
        obtain ⟨rfl, rfl⟩ := ret_eq h
        exact gx_iret X rfl dX6_refusalAt_31
    · replace h := (if_neg q8).symm.trans h
      refine gx_bipush X (v := (-11 : Int32)) dX6_refusalAt_18 (by decide) ?_
      obtain ⟨rfl, rfl⟩ := ret_eq h
      exact gx_iret X rfl dX6_refusalAt_20
  · replace h := (if_pos q4).symm.trans h
    refine gx_iconst X (v := (-1 : Int32)) dX6_refusalAt_8 (by decide) ?_
    obtain ⟨rfl, rfl⟩ := ret_eq h
    exact gx_iret X rfl dX6_refusalAt_9
theorem dX6_sameSort_0 : decode cX6_sameSort 0 = .ok (.aload_n 0, 1) := by decide +kernel
theorem dX6_sameSort_1 : decode cX6_sameSort 1 = .ok (.getfield 11, 3) := by decide +kernel
theorem dX6_sameSort_4 : decode cX6_sameSort 4 = .ok (.iload_n 1, 1) := by decide +kernel
theorem dX6_sameSort_5 : decode cX6_sameSort 5 = .ok (.iaload, 1) := by decide +kernel
theorem dX6_sameSort_6 : decode cX6_sameSort 6 = .ok (.aload_n 0, 1) := by decide +kernel
theorem dX6_sameSort_7 : decode cX6_sameSort 7 = .ok (.getfield 11, 3) := by decide +kernel
theorem dX6_sameSort_10 : decode cX6_sameSort 10 = .ok (.iload_n 2, 1) := by decide +kernel
theorem dX6_sameSort_11 : decode cX6_sameSort 11 = .ok (.iaload, 1) := by decide +kernel
theorem dX6_sameSort_12 : decode cX6_sameSort 12 = .ok (.if_icmp .ne 7, 3) := by decide +kernel
theorem dX6_sameSort_15 : decode cX6_sameSort 15 = .ok (.iconst 1, 1) := by decide +kernel
theorem dX6_sameSort_16 : decode cX6_sameSort 16 = .ok (.goto 4, 3) := by decide +kernel
theorem dX6_sameSort_19 : decode cX6_sameSort 19 = .ok (.iconst 0, 1) := by decide +kernel
theorem dX6_sameSort_20 : decode cX6_sameSort 20 = .ok (.ireturn, 1) := by decide +kernel
def m_X6_sameSort (a1 : Int32) (a2 : Int32) (g : Mm) : Option (Int32 × Mm) := gdd (ixo a1 6) (gdd (ixo a2 6) ((if (rdI g 36 a1.toNatClampNeg) = (rdI g 36 a2.toNatClampNeg) then some ((1 : Int32), g) else some ((0 : Int32), g))))
set_option maxHeartbeats 2000000 in
theorem c_X6_sameSort {r2 : Int32} {g g2 : Mm} {a1 : Int32} {a2 : Int32} (h : m_X6_sameSort a1 a2 g = some (r2, g2)) : gx_M 1 yX6_sameSort cX6_sameSort 3 (some .boolean) (fun al => [.ref (al (35)), .int (a1), .int (a2)]) g (some (.int r2)) g2 := by
  have hd : 1 ≤ 1 := Nat.le_refl _
  refine gx_M.of (by decide +kernel) (fun _ => Nat.le_of_ble_eq_true rfl) ?_
  intro p l e R s m args below meth c D al cI cJ A X
  refine gx_eq (pc' := 0) (ls' := [(0, .ref (al (35))), (1, .int (a1)), (2, .int (a2))]) (st' := []) (g' := g) ⟨rfl, rfl, rfl, rfl⟩ ?_
  unfold m_X6_sameSort at h
  refine gx_aload_n X 0 rfl dX6_sameSort_0 ?_
  refine gx_getf X (35) lf_X6_11 (by decide) (cl_35 _ _) (v := .ref (al (36))) rfl dX6_sameSort_1 ?_
  refine gx_iload_n X 1 rfl dX6_sameSort_4 ?_
  obtain ⟨q1, h⟩ := gdd_eq h
  refine gx_iald X (36) 6 (by decide) (cl_36 _ _) q1 dX6_sameSort_5 ?_
  refine gx_aload_n X 0 rfl dX6_sameSort_6 ?_
  refine gx_getf X (35) lf_X6_11 (by decide) (cl_35 _ _) (v := .ref (al (36))) rfl dX6_sameSort_7 ?_
  refine gx_iload_n X 2 rfl dX6_sameSort_10 ?_
  obtain ⟨q2, h⟩ := gdd_eq h
  refine gx_iald X (36) 6 (by decide) (cl_36 _ _) q2 dX6_sameSort_11 ?_
  refine gx_icmp_ne X 19 dX6_sameSort_12 (by decide) (fun q3 => ?_) (fun q3 => ?_)
  · replace h := (if_neg q3).symm.trans h
    refine gx_iconst X (v := (0 : Int32)) dX6_sameSort_19 (by decide) ?_
    obtain ⟨rfl, rfl⟩ := ret_eq h
    exact gx_iret X rfl dX6_sameSort_20
  · replace h := (if_pos q3).symm.trans h
    refine gx_iconst X (v := (1 : Int32)) dX6_sameSort_15 (by decide) ?_
    refine gx_goto X 20 dX6_sameSort_16 (by decide) ?_
    obtain ⟨rfl, rfl⟩ := ret_eq h
    exact gx_iret X rfl dX6_sameSort_20
theorem dX6_write_0 : decode cX6_write 0 = .ok (.aload_n 0, 1) := by decide +kernel
theorem dX6_write_1 : decode cX6_write 1 = .ok (.getfield 21, 3) := by decide +kernel
theorem dX6_write_4 : decode cX6_write 4 = .ok (.iload_n 1, 1) := by decide +kernel
theorem dX6_write_5 : decode cX6_write 5 = .ok (.bipush 60, 2) := by decide +kernel
theorem dX6_write_7 : decode cX6_write 7 = .ok (.imul, 1) := by decide +kernel
theorem dX6_write_8 : decode cX6_write 8 = .ok (.iload_n 2, 1) := by decide +kernel
theorem dX6_write_9 : decode cX6_write 9 = .ok (.iadd, 1) := by decide +kernel
theorem dX6_write_10 : decode cX6_write 10 = .ok (.aload_n 0, 1) := by decide +kernel
theorem dX6_write_11 : decode cX6_write 11 = .ok (.getfield 11, 3) := by decide +kernel
theorem dX6_write_14 : decode cX6_write 14 = .ok (.iload_n 1, 1) := by decide +kernel
theorem dX6_write_15 : decode cX6_write 15 = .ok (.iaload, 1) := by decide +kernel
theorem dX6_write_16 : decode cX6_write 16 = .ok (.lload_n 3, 1) := by decide +kernel
theorem dX6_write_17 : decode cX6_write 17 = .ok (.invokestatic 39, 3) := by decide +kernel
theorem dX6_write_20 : decode cX6_write 20 = .ok (.lastore, 1) := by decide +kernel
theorem dX6_write_21 : decode cX6_write 21 = .ok (.return_, 1) := by decide +kernel
def m_X6_write (a1 : Int32) (a2 : Int32) (a3 : Int64) (g : Mm) : Option (Int32 × Mm) := gdd (ixo a1 6) (bdd (m_X6_lowestBits (rdI g 36 a1.toNatClampNeg) a3 g) (fun ra2 ga3 => gdd (ixo ((a1 * (60 : Int32)) + a2) 360) (some ((0 : Int32), (wrL ga3 39 ((a1 * (60 : Int32)) + a2).toNatClampNeg ra2)))))
set_option maxHeartbeats 2000000 in
theorem c_X6_write {r2 : Int32} {g g2 : Mm} {a1 : Int32} {a2 : Int32} {a3 : Int64} (h : m_X6_write a1 a2 a3 g = some (r2, g2)) : gx_M 2 yX6_write cX6_write 5 none (fun al => [.ref (al (35)), .int (a1), .int (a2), .long (a3)]) g none g2 := by
  have hd : 2 ≤ 2 := Nat.le_refl _
  refine gx_M.of (by decide +kernel) (fun _ => Nat.le_of_ble_eq_true rfl) ?_
  intro p l e R s m args below meth c D al cI cJ A X
  refine gx_eq (pc' := 0) (ls' := [(0, .ref (al (35))), (1, .int (a1)), (2, .int (a2)), (3, .long (a3))]) (st' := []) (g' := g) ⟨rfl, rfl, rfl, rfl⟩ ?_
  unfold m_X6_write at h
  refine gx_aload_n X 0 rfl dX6_write_0 ?_
  refine gx_getf X (35) lf_X6_21 (by decide) (cl_35 _ _) (v := .ref (al (39))) rfl dX6_write_1 ?_
  refine gx_iload_n X 1 rfl dX6_write_4 ?_
  refine gx_bipush X (v := (60 : Int32)) dX6_write_5 (by decide) ?_
  refine gx_imul X dX6_write_7 ?_
  refine gx_iload_n X 2 rfl dX6_write_8 ?_
  refine gx_iadd X dX6_write_9 ?_
  refine gx_aload_n X 0 rfl dX6_write_10 ?_
  refine gx_getf X (35) lf_X6_11 (by decide) (cl_35 _ _) (v := .ref (al (36))) rfl dX6_write_11 ?_
  refine gx_iload_n X 1 rfl dX6_write_14 ?_
  obtain ⟨q1, h⟩ := gdd_eq h
  refine gx_iald X (36) 6 (by decide) (cl_36 _ _) q1 dX6_write_15 ?_
  refine gx_lload_n X 3 rfl dX6_write_16 ?_
  obtain ⟨ra2, ga3, ca4, h⟩ := bdd_eq h
  refine gx_callSl X (c_X6_lowestBits ca4) lc_X6_lowestBits li_X6_lowestBits lm_X6_39 rfl rfl (Nat.le_trans (by decide) hd) rfl (Nat.le_of_ble_eq_true rfl) dX6_write_17 ?_
  obtain ⟨q5, h⟩ := gdd_eq h
  refine gx_last X (39) 360 (by decide) (fun r => cl_39 _ r) q5 dX6_write_20 ?_
  obtain ⟨rfl, rfl⟩ := ret_eq h
  exact gx_vret X dX6_write_21
end DC
